/-! the law's wrappers, on -/
set_option maxHeartbeats 4000000 in
set_option maxRecDepth 100000 in
theorem c_L_undo_t (l : Launch) (hst : l.stackTraces = false) (G : va_G) (T : Nat → ClassId) (sz ao : Nat) (f : Nat → Int64) (w : Nat → Nat) (q : Nat → Nat) (qz : Nat → Nat) (h : Nat → Nat) (qs : Nat → Nat → Nat) (t : Nat → Nat) (gr : Nat → Nat) (u : Nat → Nat) (tr : Nat → Nat) (oc : Nat → Nat) (Sw : Nat → Nat → Int32) (S : Nat → Nat → Int32) (Z : Nat → Nat → Int32) (Sh : Nat → Nat → Int32) (Hs : Nat → Nat → Nat → Int32) (X : Nat → Nat → Int32) (Gg : Nat → Nat → Int32) (U : Nat → Nat → Int32) (K : Nat → Nat → Int32) (O : Nat → Nat → Int32) (hn : Sh 0 2 = nI 0) : RWx l yL_undo wsL_undo 8 G T sz ([(ao, .inl (T 3, 1, .inr (.inl f)))] ++ oC T (w, q, qz, h, qs, t, gr, u, tr, oc) (Sw, S, Z, Sh, Hs, X, Gg, U, K, O)) [.ref (w 0), .ref ao] (nI 1) ([(ao, .inl (T 3, 1, .inr (.inl f)))] ++ oC T (w, q, qz, h, qs, t, gr, u, tr, oc) (Sw, S, Z, Sh, Hs, X, Gg, U, K, O)) := by
  refine met_vx (vx_ofWH (cc := cL_undo) (maxL := 3) (ret := (some .int)) (by decide) rfl ?_)
  intro p e s m args below meth c s₁ B hml hv
  obtain ⟨ha, ⟨⟨hsz, hP, hK, hD0, hE0⟩, hC⟩, hN9⟩ := hv
  have hx := B.exec
  have hb := B.bytes
  have hr := B.returns
  have hlocks := B.notSynchronized
  have hts := atoms_spec (ws := wsL_undo) B.pre
  have htab := vx_table (x := yL_undo) B (hts (.codeWith yL_undo cL_undo 3 (some .int) [(0, 8, 11, 17)]) List.mem_cons_self)
  have hown : s.vm.findClass RL = some m.cls := findClass_of_methodNamed B.named
  have cx : CallFix p m c cL_undo 3 s args wsL_undo RL := ⟨hx, hb, hml, hown, hts⟩
  subst hsz
  have hD := hD0.self (sz := s.heap.size)
  generalize hAe : va_A ([(ao, .inl (T 3, 1, .inr (.inl f)))] ++ oC T (w, q, qz, h, qs, t, gr, u, tr, oc) (Sw, S, Z, Sh, Hs, X, Gg, U, K, O)) s.heap.size = A at hD hE0 ⊢
  have hE : gE A s s.heap := hE0
  have hA : ∀ q : Nat, s.heap.size ≤ q → A q := fun q h => by rw [← hAe]; exact Or.inr h
  have hS : va_S A s.heap s.heap [] := va_S.rf
  refine w_entry ha (Nat.le_of_ble_eq_true rfl) (fun ls hl => ?_)
  refine w_q (fun Q0 hQ => ?_)
  have hl : lv_has ls 3 [(0, .ref (w 0)), (1, .ref ao)] := hl
  refine w_h (fun H locs hHe hLe => ?_)
  have hP : va_P G vwCl ([(ao, .inl (T 3, 1, .inr (.inl f)))] ++ oC T (w, q, qz, h, qs, t, gr, u, tr, oc) (Sw, S, Z, Sh, Hs, X, Gg, U, K, O)) H := by rw [hHe]; exact hP
  have hS : va_S A s.heap H locs := by rw [hHe, hLe]; exact hS
  refine lv_aload_n hx hb dL_undo_0 rfl (lv_at hl 1 rfl) ?_
  refine n_iconst hx hb 0 dL_undo_1 (by decide) ?_
  refine lv_aload_n hx hb dL_undo_2 rfl (lv_at hl 0 rfl) ?_
  refine k_rxV (As := []) (rest := [.int (nI 0), .ref ao]) (wc := [(ao, .inl (T 3, 1, .inr (.inl f)))] ++ oC T (w, q, qz, h, qs, t, gr, u, tr, oc) (Sw, S, Z, Sh, Hs, X, Gg, U, K, O)) (wr := []) (w1 := [(ao, .inl (T 3, 1, .inr (.inl f)))] ++ oC T (w, q, qz, h, qs, t, gr, u, tr, oc) (Sw, S, Z, Sh, Hs, X, Gg, U, K, O)) (d := 7) cx (RX.fr (w_X7_undo_t l hst G T H.size w q qz h qs t gr u tr oc Sw S Z Sh Hs X Gg U K O hn) (Fr.head [(ao, .inl (T 3, 1, .inr (.inl f)))] (oC T (w, q, qz, h, qs, t, gr, u, tr, oc) (Sw, S, Z, Sh, Hs, X, Gg, U, K, O)) (oC T (w, q, qz, h, qs, t, gr, u, tr, oc) (Sw, S, Z, Sh, Hs, X, Gg, U, K, O)))) (cwV 0 hts gL_undo_X7_undo rfl rfl rfl (by decide +kernel) ⟨Nat.le_of_ble_eq_true rfl, Nat.le_of_ble_eq_true rfl⟩) (kN_full hP hD hS hA hE hK) hC (va_recv hK hP (ci := 7) (q0 := 1) rfl rfl) rfl hl.1 rfl (Nat.le_of_ble_eq_true rfl) dL_undo_3 ⟨Nat.le_of_ble_eq_true rfl, Nat.le_of_ble_eq_true rfl⟩ (fun E9 ce q9 H locs he hP hD hS h1 h2 h3 => ?_) (fun v H locs he => by cases he)
  cases he
  refine vx_catch (own := RL) (name := "java/lang/IllegalStateException") (E := "java/lang/IllegalStateException") hown [] ⟨0, 8, 11, 17⟩ [] (htab.trans rfl) (fun _ h9 => by cases h9) (by decide) (by decide) (hts (.classLink RL 17 "java/lang/IllegalStateException") (by decide +kernel)) (va_Nw.use rfl (hC.1 "java/lang/IllegalStateException" (by decide))) h1 h2 h3 ?_
  refine lv_astore_n (lv' := [(2, .ref q9), (0, .ref (w 0)), (1, .ref ao)]) hx hb dL_undo_11 rfl hl (by decide) rfl (fun ls hl => ?_)
  refine n_iconst hx hb 1 dL_undo_12 (by decide) ?_
  subst hQ
  exact vx_ret (W.widen (k := 1) (n := 6) (by decide) (by decide) (e_rwi hx hb hr hlocks hS rfl hP hD dL_undo_13))
set_option maxHeartbeats 4000000 in
set_option maxRecDepth 100000 in
theorem c_L_count_3 (l : Launch) (hst : l.stackTraces = false) (G : va_G) (T : Nat → ClassId) (sz ao : Nat) (f : Nat → Int64) (w : Nat → Nat) (q : Nat → Nat) (qz : Nat → Nat) (h : Nat → Nat) (qs : Nat → Nat → Nat) (t : Nat → Nat) (gr : Nat → Nat) (u : Nat → Nat) (tr : Nat → Nat) (oc : Nat → Nat) (Sw : Nat → Nat → Int32) (S : Nat → Nat → Int32) (Z : Nat → Nat → Int32) (Sh : Nat → Nat → Int32) (Hs : Nat → Nat → Nat → Int32) (X : Nat → Nat → Int32) (Gg : Nat → Nat → Int32) (U : Nat → Nat → Int32) (K : Nat → Nat → Int32) (O : Nat → Nat → Int32) (tl : Nat → Nat) (htl : ∀ i : Nat, i < 20 → S 6 i = nI (tl i)) (htl8 : ∀ i : Nat, i < 20 → tl i ≤ 8) : RWx l yL_count wsL_count 6 G T sz ([(ao, .inl (T 3, 1, .inr (.inl f)))] ++ oC T (w, q, qz, h, qs, t, gr, u, tr, oc) (Sw, S, Z, Sh, Hs, X, Gg, U, K, O)) [.ref (w 0), .int (nI 3), .ref ao] (nI 0) ([(ao, .inl (T 3, 1, .inr (.inl (vp_updL f 0 ((nI (tG S tl 20).2.2)).toInt64))))] ++ oC T (w, q, qz, h, qs, t, gr, u, tr, oc) (Sw, S, Z, Sh, Hs, X, Gg, U, gTr K S tl, O)) := by
  refine met_vx (vx_ofWH (cc := cL_count) (maxL := 4) (ret := (some .int)) (by decide) rfl ?_)
  intro p e s m args below meth c s₁ B hml hv
  obtain ⟨ha, ⟨⟨hsz, hP, hK, hD0, hE0⟩, hC⟩, hN9⟩ := hv
  have hx := B.exec
  have hb := B.bytes
  have hr := B.returns
  have hlocks := B.notSynchronized
  have hts := atoms_spec (ws := wsL_count) B.pre
  have htab := vx_table (x := yL_count) B (hts (.codeWith yL_count cL_count 4 (some .int) [(0, 9, 12, 15)]) List.mem_cons_self)
  have hown : s.vm.findClass RL = some m.cls := findClass_of_methodNamed B.named
  have cx : CallFix p m c cL_count 4 s args wsL_count RL := ⟨hx, hb, hml, hown, hts⟩
  subst hsz
  have hD := hD0.self (sz := s.heap.size)
  generalize hAe : va_A ([(ao, .inl (T 3, 1, .inr (.inl f)))] ++ oC T (w, q, qz, h, qs, t, gr, u, tr, oc) (Sw, S, Z, Sh, Hs, X, Gg, U, K, O)) s.heap.size = A at hD hE0 ⊢
  have hE : gE A s s.heap := hE0
  have hA : ∀ q : Nat, s.heap.size ≤ q → A q := fun q h => by rw [← hAe]; exact Or.inr h
  have hS : va_S A s.heap s.heap [] := va_S.rf
  refine w_entry ha (Nat.le_of_ble_eq_true rfl) (fun ls hl => ?_)
  refine w_q (fun Q0 hQ => ?_)
  have hl : lv_has ls 4 [(0, .ref (w 0)), (1, .int (nI 3)), (2, .ref ao)] := hl
  refine w_h (fun H locs hHe hLe => ?_)
  have hP : va_P G vwCl ([(ao, .inl (T 3, 1, .inr (.inl f)))] ++ oC T (w, q, qz, h, qs, t, gr, u, tr, oc) (Sw, S, Z, Sh, Hs, X, Gg, U, K, O)) H := by rw [hHe]; exact hP
  have hS : va_S A s.heap H locs := by rw [hHe, hLe]; exact hS
  refine lv_aload_n hx hb dL_count_0 rfl (lv_at hl 2 rfl) ?_
  refine n_iconst hx hb 0 dL_count_1 (by decide) ?_
  refine lv_aload_n hx hb dL_count_2 rfl (lv_at hl 0 rfl) ?_
  refine lv_iload_n hx hb dL_count_3 rfl (lv_at hl 1 rfl) ?_
  refine k_rwV (As := [.int (nI 3)]) (rest := [.int (nI 0), .ref ao]) (wc := [(ao, .inl (T 3, 1, .inr (.inl f)))] ++ oC T (w, q, qz, h, qs, t, gr, u, tr, oc) (Sw, S, Z, Sh, Hs, X, Gg, U, K, O)) (wr := []) (w1 := [(ao, .inl (T 3, 1, .inr (.inl f)))] ++ oC T (w, q, qz, h, qs, t, gr, u, tr, oc) (Sw, S, Z, Sh, Hs, X, Gg, U, gTr K S tl, O)) (d := 5) (mc := 0) (ms := 0) (v := nI (tG S tl 20).2.2) cx (RWi.fr (w_X7_count_3 l G T H.size w q qz h qs t gr u tr oc Sw S Z Sh Hs X Gg U K O tl htl htl8) (Fr.head [(ao, .inl (T 3, 1, .inr (.inl f)))] (oC T (w, q, qz, h, qs, t, gr, u, tr, oc) (Sw, S, Z, Sh, Hs, X, Gg, U, K, O)) (oC T (w, q, qz, h, qs, t, gr, u, tr, oc) (Sw, S, Z, Sh, Hs, X, Gg, U, gTr K S tl, O)))) (cwV 1 hts gL_count_X7_count rfl rfl rfl (by decide +kernel) ⟨Nat.le_of_ble_eq_true rfl, Nat.le_of_ble_eq_true rfl⟩) (kN_full hP hD hS hA hE hK) (va_recv hK hP (ci := 7) (q0 := 1) rfl rfl) rfl hl.1 rfl (Nat.le_of_ble_eq_true rfl) dL_count_4 ⟨Nat.le_of_ble_eq_true rfl, Nat.le_of_ble_eq_true rfl⟩ (fun H locs hP hD hS hz => ?_)
  have hP : va_P G vwCl ([(ao, .inl (T 3, 1, .inr (.inl f)))] ++ oC T (w, q, qz, h, qs, t, gr, u, tr, oc) (Sw, S, Z, Sh, Hs, X, Gg, U, gTr K S tl, O)) H := hP
  have hD : va_D A ([(ao, .inl (T 3, 1, .inr (.inl f)))] ++ oC T (w, q, qz, h, qs, t, gr, u, tr, oc) (Sw, S, Z, Sh, Hs, X, Gg, U, gTr K S tl, O)) := hD
  refine lv_i2l (v := (nI (tG S tl 20).2.2).toInt64) hx hb dL_count_7 rfl ?_
  refine va_last hx hb hK hP hD hS 0 3 rfl rfl (vp_in_nI (show 0 < 1 by decide) (by decide)) dL_count_8 (fun H locs hP hD hS => ?_)
  have hP : va_P G vwCl ([(ao, .inl (T 3, 1, .inr (.inl (vp_updL f 0 ((nI (tG S tl 20).2.2)).toInt64))))] ++ oC T (w, q, qz, h, qs, t, gr, u, tr, oc) (Sw, S, Z, Sh, Hs, X, Gg, U, gTr K S tl, O)) H := hP
  have hD : va_D A ([(ao, .inl (T 3, 1, .inr (.inl (vp_updL f 0 ((nI (tG S tl 20).2.2)).toInt64))))] ++ oC T (w, q, qz, h, qs, t, gr, u, tr, oc) (Sw, S, Z, Sh, Hs, X, Gg, U, gTr K S tl, O)) := hD
  refine lv_goto (tgt := 15) hx hb dL_count_9 (by decide) ?_
  refine n_iconst hx hb 0 dL_count_15 (by decide) ?_
  subst hQ
  exact vx_ret (W.widen (k := 1) (n := 6) (by decide) (by decide) (e_rwi hx hb hr hlocks hS rfl hP hD dL_count_16))
set_option maxHeartbeats 4000000 in
set_option maxRecDepth 100000 in
theorem c_L_decode_0 (l : Launch) (hst : l.stackTraces = false) (G : va_G) (T : Nat → ClassId) (sz ao : Nat) (f : Nat → Int64) (w : Nat → Nat) (q : Nat → Nat) (qz : Nat → Nat) (h : Nat → Nat) (qs : Nat → Nat → Nat) (t : Nat → Nat) (gr : Nat → Nat) (u : Nat → Nat) (tr : Nat → Nat) (oc : Nat → Nat) (Sw : Nat → Nat → Int32) (S : Nat → Nat → Int32) (Z : Nat → Nat → Int32) (Sh : Nat → Nat → Int32) (Hs : Nat → Nat → Nat → Int32) (X : Nat → Nat → Int32) (Gg : Nat → Nat → Int32) (U : Nat → Nat → Int32) (K : Nat → Nat → Int32) (O : Nat → Nat → Int32) (n : Nat) (cd : Nat → Nat) (tl : Nat → Nat) (kk : Nat) (hlen : X 0 1 = nI n) (hn60 : n ≤ 60) (hcd : ∀ i : Nat, i < n → X 1 i = nI (cd i)) (hc127 : ∀ i : Nat, i < n → cd i < 127) (htl : ∀ i : Nat, i < 20 → S 6 i = nI (tl i)) (htl8 : ∀ i : Nat, i < 20 → tl i ≤ 8) (hk9 : kk < 7) (hbT : bT cd n = true) : RWx l yL_decode wsL_decode 14 G T sz ([(ao, .inl (T 3, 1, .inr (.inl f)))] ++ oC T (w, q, qz, h, qs, t, gr, u, tr, oc) (Sw, S, Z, Sh, Hs, X, Gg, U, K, O)) [.ref (w 0), .int (nI kk), .int (nI 0), .ref ao] (nI 0) ([(ao, .inl (T 3, 1, .inr (.inl (vp_updL f 0 ((pDT S tl (rTu U cd n) (ntT cd n U) (nI kk))).toInt64))))] ++ oC T (w, q, qz, h, qs, t, gr, u, tr, oc) (Sw, S, Z, Sh, Hs, X, gGr Gg cd n 4 false, rTu U cd n, gTO K S tl (ntT cd n U), O)) := by
  refine met_vx (vx_ofWH (cc := cL_decode) (maxL := 5) (ret := (some .int)) (by decide) rfl ?_)
  intro p e s m args below meth c s₁ B hml hv
  obtain ⟨ha, ⟨⟨hsz, hP, hK, hD0, hE0⟩, hC⟩, hN9⟩ := hv
  have hx := B.exec
  have hb := B.bytes
  have hr := B.returns
  have hlocks := B.notSynchronized
  have hts := atoms_spec (ws := wsL_decode) B.pre
  have htab := vx_table (x := yL_decode) B (hts (.codeWith yL_decode cL_decode 5 (some .int) [(0, 10, 13, 15)]) List.mem_cons_self)
  have hown : s.vm.findClass RL = some m.cls := findClass_of_methodNamed B.named
  have cx : CallFix p m c cL_decode 5 s args wsL_decode RL := ⟨hx, hb, hml, hown, hts⟩
  subst hsz
  have hD := hD0.self (sz := s.heap.size)
  generalize hAe : va_A ([(ao, .inl (T 3, 1, .inr (.inl f)))] ++ oC T (w, q, qz, h, qs, t, gr, u, tr, oc) (Sw, S, Z, Sh, Hs, X, Gg, U, K, O)) s.heap.size = A at hD hE0 ⊢
  have hE : gE A s s.heap := hE0
  have hA : ∀ q : Nat, s.heap.size ≤ q → A q := fun q h => by rw [← hAe]; exact Or.inr h
  have hS : va_S A s.heap s.heap [] := va_S.rf
  refine w_entry ha (Nat.le_of_ble_eq_true rfl) (fun ls hl => ?_)
  refine w_q (fun Q0 hQ => ?_)
  have hl : lv_has ls 5 [(0, .ref (w 0)), (1, .int (nI kk)), (2, .int (nI 0)), (3, .ref ao)] := hl
  refine w_h (fun H locs hHe hLe => ?_)
  have hP : va_P G vwCl ([(ao, .inl (T 3, 1, .inr (.inl f)))] ++ oC T (w, q, qz, h, qs, t, gr, u, tr, oc) (Sw, S, Z, Sh, Hs, X, Gg, U, K, O)) H := by rw [hHe]; exact hP
  have hS : va_S A s.heap H locs := by rw [hHe, hLe]; exact hS
  refine lv_aload_n hx hb dL_decode_0 rfl (lv_at hl 3 rfl) ?_
  refine n_iconst hx hb 0 dL_decode_1 (by decide) ?_
  refine lv_aload_n hx hb dL_decode_2 rfl (lv_at hl 0 rfl) ?_
  refine lv_iload_n hx hb dL_decode_3 rfl (lv_at hl 1 rfl) ?_
  refine lv_iload_n hx hb dL_decode_4 rfl (lv_at hl 2 rfl) ?_
  refine k_rwV (As := [.int (nI kk), .int (nI 0)]) (rest := [.int (nI 0), .ref ao]) (wc := [(ao, .inl (T 3, 1, .inr (.inl f)))] ++ oC T (w, q, qz, h, qs, t, gr, u, tr, oc) (Sw, S, Z, Sh, Hs, X, Gg, U, K, O)) (wr := []) (w1 := [(ao, .inl (T 3, 1, .inr (.inl f)))] ++ oC T (w, q, qz, h, qs, t, gr, u, tr, oc) (Sw, S, Z, Sh, Hs, X, gGr Gg cd n 4 false, rTu U cd n, gTO K S tl (ntT cd n U), O)) (d := 13) (mc := 0) (ms := 0) (v := pDT S tl (rTu U cd n) (ntT cd n U) (nI kk)) cx (RWi.fr (w_X7_decode_0 l G T H.size w q qz h qs t gr u tr oc Sw S Z Sh Hs X Gg U K O n cd tl kk hlen hn60 hcd hc127 htl htl8 hk9 hbT) (Fr.head [(ao, .inl (T 3, 1, .inr (.inl f)))] (oC T (w, q, qz, h, qs, t, gr, u, tr, oc) (Sw, S, Z, Sh, Hs, X, Gg, U, K, O)) (oC T (w, q, qz, h, qs, t, gr, u, tr, oc) (Sw, S, Z, Sh, Hs, X, gGr Gg cd n 4 false, rTu U cd n, gTO K S tl (ntT cd n U), O)))) (cwV 2 hts gL_decode_X7_decode rfl rfl rfl (by decide +kernel) ⟨Nat.le_of_ble_eq_true rfl, Nat.le_of_ble_eq_true rfl⟩) (kN_full hP hD hS hA hE hK) (va_recv hK hP (ci := 7) (q0 := 1) rfl rfl) rfl hl.1 rfl (Nat.le_of_ble_eq_true rfl) dL_decode_5 ⟨Nat.le_of_ble_eq_true rfl, Nat.le_of_ble_eq_true rfl⟩ (fun H locs hP hD hS hz => ?_)
  have hP : va_P G vwCl ([(ao, .inl (T 3, 1, .inr (.inl f)))] ++ oC T (w, q, qz, h, qs, t, gr, u, tr, oc) (Sw, S, Z, Sh, Hs, X, gGr Gg cd n 4 false, rTu U cd n, gTO K S tl (ntT cd n U), O)) H := hP
  have hD : va_D A ([(ao, .inl (T 3, 1, .inr (.inl f)))] ++ oC T (w, q, qz, h, qs, t, gr, u, tr, oc) (Sw, S, Z, Sh, Hs, X, gGr Gg cd n 4 false, rTu U cd n, gTO K S tl (ntT cd n U), O)) := hD
  refine lv_i2l (v := (pDT S tl (rTu U cd n) (ntT cd n U) (nI kk)).toInt64) hx hb dL_decode_8 rfl ?_
  refine va_last hx hb hK hP hD hS 0 3 rfl rfl (vp_in_nI (show 0 < 1 by decide) (by decide)) dL_decode_9 (fun H locs hP hD hS => ?_)
  have hP : va_P G vwCl ([(ao, .inl (T 3, 1, .inr (.inl (vp_updL f 0 ((pDT S tl (rTu U cd n) (ntT cd n U) (nI kk))).toInt64))))] ++ oC T (w, q, qz, h, qs, t, gr, u, tr, oc) (Sw, S, Z, Sh, Hs, X, gGr Gg cd n 4 false, rTu U cd n, gTO K S tl (ntT cd n U), O)) H := hP
  have hD : va_D A ([(ao, .inl (T 3, 1, .inr (.inl (vp_updL f 0 ((pDT S tl (rTu U cd n) (ntT cd n U) (nI kk))).toInt64))))] ++ oC T (w, q, qz, h, qs, t, gr, u, tr, oc) (Sw, S, Z, Sh, Hs, X, gGr Gg cd n 4 false, rTu U cd n, gTO K S tl (ntT cd n U), O)) := hD
  refine lv_goto (tgt := 17) hx hb dL_decode_10 (by decide) ?_
  refine n_iconst hx hb 0 dL_decode_17 (by decide) ?_
  subst hQ
  exact vx_ret (W.widen (k := 1) (n := 6) (by decide) (by decide) (e_rwi hx hb hr hlocks hS rfl hP hD dL_decode_18))
set_option maxHeartbeats 4000000 in
set_option maxRecDepth 100000 in
theorem c_L_decode_1 (l : Launch) (hst : l.stackTraces = false) (G : va_G) (T : Nat → ClassId) (sz ao : Nat) (f : Nat → Int64) (w : Nat → Nat) (q : Nat → Nat) (qz : Nat → Nat) (h : Nat → Nat) (qs : Nat → Nat → Nat) (t : Nat → Nat) (gr : Nat → Nat) (u : Nat → Nat) (tr : Nat → Nat) (oc : Nat → Nat) (Sw : Nat → Nat → Int32) (S : Nat → Nat → Int32) (Z : Nat → Nat → Int32) (Sh : Nat → Nat → Int32) (Hs : Nat → Nat → Nat → Int32) (X : Nat → Nat → Int32) (Gg : Nat → Nat → Int32) (U : Nat → Nat → Int32) (K : Nat → Nat → Int32) (O : Nat → Nat → Int32) (n : Nat) (cd : Nat → Nat) (tl : Nat → Nat) (kk : Nat) (hlen : X 0 1 = nI n) (hn60 : n ≤ 60) (hcd : ∀ i : Nat, i < n → X 1 i = nI (cd i)) (hc127 : ∀ i : Nat, i < n → cd i < 127) (htl : ∀ i : Nat, i < 20 → S 6 i = nI (tl i)) (htl8 : ∀ i : Nat, i < 20 → tl i ≤ 8) (hk9 : kk < 7) (hbT : bT cd n = true) : RWx l yL_decode wsL_decode 14 G T sz ([(ao, .inl (T 3, 1, .inr (.inl f)))] ++ oC T (w, q, qz, h, qs, t, gr, u, tr, oc) (Sw, S, Z, Sh, Hs, X, Gg, U, K, O)) [.ref (w 0), .int (nI kk), .int (nI 1), .ref ao] (nI 0) ([(ao, .inl (T 3, 1, .inr (.inl (vp_updL f 0 ((pDM S tl (rTu U cd n) (ntT cd n U) (nI kk))).toInt64))))] ++ oC T (w, q, qz, h, qs, t, gr, u, tr, oc) (Sw, S, Z, Sh, Hs, X, gGr Gg cd n 4 false, rTu U cd n, K, O)) := by
  refine met_vx (vx_ofWH (cc := cL_decode) (maxL := 5) (ret := (some .int)) (by decide) rfl ?_)
  intro p e s m args below meth c s₁ B hml hv
  obtain ⟨ha, ⟨⟨hsz, hP, hK, hD0, hE0⟩, hC⟩, hN9⟩ := hv
  have hx := B.exec
  have hb := B.bytes
  have hr := B.returns
  have hlocks := B.notSynchronized
  have hts := atoms_spec (ws := wsL_decode) B.pre
  have htab := vx_table (x := yL_decode) B (hts (.codeWith yL_decode cL_decode 5 (some .int) [(0, 10, 13, 15)]) List.mem_cons_self)
  have hown : s.vm.findClass RL = some m.cls := findClass_of_methodNamed B.named
  have cx : CallFix p m c cL_decode 5 s args wsL_decode RL := ⟨hx, hb, hml, hown, hts⟩
  subst hsz
  have hD := hD0.self (sz := s.heap.size)
  generalize hAe : va_A ([(ao, .inl (T 3, 1, .inr (.inl f)))] ++ oC T (w, q, qz, h, qs, t, gr, u, tr, oc) (Sw, S, Z, Sh, Hs, X, Gg, U, K, O)) s.heap.size = A at hD hE0 ⊢
  have hE : gE A s s.heap := hE0
  have hA : ∀ q : Nat, s.heap.size ≤ q → A q := fun q h => by rw [← hAe]; exact Or.inr h
  have hS : va_S A s.heap s.heap [] := va_S.rf
  refine w_entry ha (Nat.le_of_ble_eq_true rfl) (fun ls hl => ?_)
  refine w_q (fun Q0 hQ => ?_)
  have hl : lv_has ls 5 [(0, .ref (w 0)), (1, .int (nI kk)), (2, .int (nI 1)), (3, .ref ao)] := hl
  refine w_h (fun H locs hHe hLe => ?_)
  have hP : va_P G vwCl ([(ao, .inl (T 3, 1, .inr (.inl f)))] ++ oC T (w, q, qz, h, qs, t, gr, u, tr, oc) (Sw, S, Z, Sh, Hs, X, Gg, U, K, O)) H := by rw [hHe]; exact hP
  have hS : va_S A s.heap H locs := by rw [hHe, hLe]; exact hS
  refine lv_aload_n hx hb dL_decode_0 rfl (lv_at hl 3 rfl) ?_
  refine n_iconst hx hb 0 dL_decode_1 (by decide) ?_
  refine lv_aload_n hx hb dL_decode_2 rfl (lv_at hl 0 rfl) ?_
  refine lv_iload_n hx hb dL_decode_3 rfl (lv_at hl 1 rfl) ?_
  refine lv_iload_n hx hb dL_decode_4 rfl (lv_at hl 2 rfl) ?_
  refine k_rwV (As := [.int (nI kk), .int (nI 1)]) (rest := [.int (nI 0), .ref ao]) (wc := [(ao, .inl (T 3, 1, .inr (.inl f)))] ++ oC T (w, q, qz, h, qs, t, gr, u, tr, oc) (Sw, S, Z, Sh, Hs, X, Gg, U, K, O)) (wr := []) (w1 := [(ao, .inl (T 3, 1, .inr (.inl f)))] ++ oC T (w, q, qz, h, qs, t, gr, u, tr, oc) (Sw, S, Z, Sh, Hs, X, gGr Gg cd n 4 false, rTu U cd n, K, O)) (d := 13) (mc := 0) (ms := 0) (v := pDM S tl (rTu U cd n) (ntT cd n U) (nI kk)) cx (RWi.fr (w_X7_decode_1 l G T H.size w q qz h qs t gr u tr oc Sw S Z Sh Hs X Gg U K O n cd tl kk hlen hn60 hcd hc127 htl htl8 hk9 hbT) (Fr.head [(ao, .inl (T 3, 1, .inr (.inl f)))] (oC T (w, q, qz, h, qs, t, gr, u, tr, oc) (Sw, S, Z, Sh, Hs, X, Gg, U, K, O)) (oC T (w, q, qz, h, qs, t, gr, u, tr, oc) (Sw, S, Z, Sh, Hs, X, gGr Gg cd n 4 false, rTu U cd n, K, O)))) (cwV 2 hts gL_decode_X7_decode rfl rfl rfl (by decide +kernel) ⟨Nat.le_of_ble_eq_true rfl, Nat.le_of_ble_eq_true rfl⟩) (kN_full hP hD hS hA hE hK) (va_recv hK hP (ci := 7) (q0 := 1) rfl rfl) rfl hl.1 rfl (Nat.le_of_ble_eq_true rfl) dL_decode_5 ⟨Nat.le_of_ble_eq_true rfl, Nat.le_of_ble_eq_true rfl⟩ (fun H locs hP hD hS hz => ?_)
  have hP : va_P G vwCl ([(ao, .inl (T 3, 1, .inr (.inl f)))] ++ oC T (w, q, qz, h, qs, t, gr, u, tr, oc) (Sw, S, Z, Sh, Hs, X, gGr Gg cd n 4 false, rTu U cd n, K, O)) H := hP
  have hD : va_D A ([(ao, .inl (T 3, 1, .inr (.inl f)))] ++ oC T (w, q, qz, h, qs, t, gr, u, tr, oc) (Sw, S, Z, Sh, Hs, X, gGr Gg cd n 4 false, rTu U cd n, K, O)) := hD
  refine lv_i2l (v := (pDM S tl (rTu U cd n) (ntT cd n U) (nI kk)).toInt64) hx hb dL_decode_8 rfl ?_
  refine va_last hx hb hK hP hD hS 0 3 rfl rfl (vp_in_nI (show 0 < 1 by decide) (by decide)) dL_decode_9 (fun H locs hP hD hS => ?_)
  have hP : va_P G vwCl ([(ao, .inl (T 3, 1, .inr (.inl (vp_updL f 0 ((pDM S tl (rTu U cd n) (ntT cd n U) (nI kk))).toInt64))))] ++ oC T (w, q, qz, h, qs, t, gr, u, tr, oc) (Sw, S, Z, Sh, Hs, X, gGr Gg cd n 4 false, rTu U cd n, K, O)) H := hP
  have hD : va_D A ([(ao, .inl (T 3, 1, .inr (.inl (vp_updL f 0 ((pDM S tl (rTu U cd n) (ntT cd n U) (nI kk))).toInt64))))] ++ oC T (w, q, qz, h, qs, t, gr, u, tr, oc) (Sw, S, Z, Sh, Hs, X, gGr Gg cd n 4 false, rTu U cd n, K, O)) := hD
  refine lv_goto (tgt := 17) hx hb dL_decode_10 (by decide) ?_
  refine n_iconst hx hb 0 dL_decode_17 (by decide) ?_
  subst hQ
  exact vx_ret (W.widen (k := 1) (n := 6) (by decide) (by decide) (e_rwi hx hb hr hlocks hS rfl hP hD dL_decode_18))
set_option maxHeartbeats 4000000 in
set_option maxRecDepth 100000 in
theorem c_L_decode_t (l : Launch) (hst : l.stackTraces = false) (G : va_G) (T : Nat → ClassId) (sz ao : Nat) (f : Nat → Int64) (w : Nat → Nat) (q : Nat → Nat) (qz : Nat → Nat) (h : Nat → Nat) (qs : Nat → Nat → Nat) (t : Nat → Nat) (gr : Nat → Nat) (u : Nat → Nat) (tr : Nat → Nat) (oc : Nat → Nat) (Sw : Nat → Nat → Int32) (S : Nat → Nat → Int32) (Z : Nat → Nat → Int32) (Sh : Nat → Nat → Int32) (Hs : Nat → Nat → Nat → Int32) (X : Nat → Nat → Int32) (Gg : Nat → Nat → Int32) (U : Nat → Nat → Int32) (K : Nat → Nat → Int32) (O : Nat → Nat → Int32) (x : Int32) (y : Int32) (hbx : pBt x 7 = false) : RWx l yL_decode wsL_decode 8 G T sz ([(ao, .inl (T 3, 1, .inr (.inl f)))] ++ oC T (w, q, qz, h, qs, t, gr, u, tr, oc) (Sw, S, Z, Sh, Hs, X, Gg, U, K, O)) [.ref (w 0), .int x, .int y, .ref ao] (nI 1) ([(ao, .inl (T 3, 1, .inr (.inl f)))] ++ oC T (w, q, qz, h, qs, t, gr, u, tr, oc) (Sw, S, Z, Sh, Hs, X, Gg, U, K, O)) := by
  refine met_vx (vx_ofWH (cc := cL_decode) (maxL := 5) (ret := (some .int)) (by decide) rfl ?_)
  intro p e s m args below meth c s₁ B hml hv
  obtain ⟨ha, ⟨⟨hsz, hP, hK, hD0, hE0⟩, hC⟩, hN9⟩ := hv
  have hx := B.exec
  have hb := B.bytes
  have hr := B.returns
  have hlocks := B.notSynchronized
  have hts := atoms_spec (ws := wsL_decode) B.pre
  have htab := vx_table (x := yL_decode) B (hts (.codeWith yL_decode cL_decode 5 (some .int) [(0, 10, 13, 15)]) List.mem_cons_self)
  have hown : s.vm.findClass RL = some m.cls := findClass_of_methodNamed B.named
  have cx : CallFix p m c cL_decode 5 s args wsL_decode RL := ⟨hx, hb, hml, hown, hts⟩
  subst hsz
  have hD := hD0.self (sz := s.heap.size)
  generalize hAe : va_A ([(ao, .inl (T 3, 1, .inr (.inl f)))] ++ oC T (w, q, qz, h, qs, t, gr, u, tr, oc) (Sw, S, Z, Sh, Hs, X, Gg, U, K, O)) s.heap.size = A at hD hE0 ⊢
  have hE : gE A s s.heap := hE0
  have hA : ∀ q : Nat, s.heap.size ≤ q → A q := fun q h => by rw [← hAe]; exact Or.inr h
  have hS : va_S A s.heap s.heap [] := va_S.rf
  refine w_entry ha (Nat.le_of_ble_eq_true rfl) (fun ls hl => ?_)
  refine w_q (fun Q0 hQ => ?_)
  have hl : lv_has ls 5 [(0, .ref (w 0)), (1, .int x), (2, .int y), (3, .ref ao)] := hl
  refine w_h (fun H locs hHe hLe => ?_)
  have hP : va_P G vwCl ([(ao, .inl (T 3, 1, .inr (.inl f)))] ++ oC T (w, q, qz, h, qs, t, gr, u, tr, oc) (Sw, S, Z, Sh, Hs, X, Gg, U, K, O)) H := by rw [hHe]; exact hP
  have hS : va_S A s.heap H locs := by rw [hHe, hLe]; exact hS
  refine lv_aload_n hx hb dL_decode_0 rfl (lv_at hl 3 rfl) ?_
  refine n_iconst hx hb 0 dL_decode_1 (by decide) ?_
  refine lv_aload_n hx hb dL_decode_2 rfl (lv_at hl 0 rfl) ?_
  refine lv_iload_n hx hb dL_decode_3 rfl (lv_at hl 1 rfl) ?_
  refine lv_iload_n hx hb dL_decode_4 rfl (lv_at hl 2 rfl) ?_
  refine k_rxV (As := [.int x, .int y]) (rest := [.int (nI 0), .ref ao]) (wc := [(ao, .inl (T 3, 1, .inr (.inl f)))] ++ oC T (w, q, qz, h, qs, t, gr, u, tr, oc) (Sw, S, Z, Sh, Hs, X, Gg, U, K, O)) (wr := []) (w1 := [(ao, .inl (T 3, 1, .inr (.inl f)))] ++ oC T (w, q, qz, h, qs, t, gr, u, tr, oc) (Sw, S, Z, Sh, Hs, X, Gg, U, K, O)) (d := 7) cx (RX.fr (w_X7_decode_t l hst G T H.size w q qz h qs t gr u tr oc Sw S Z Sh Hs X Gg U K O x y hbx) (Fr.head [(ao, .inl (T 3, 1, .inr (.inl f)))] (oC T (w, q, qz, h, qs, t, gr, u, tr, oc) (Sw, S, Z, Sh, Hs, X, Gg, U, K, O)) (oC T (w, q, qz, h, qs, t, gr, u, tr, oc) (Sw, S, Z, Sh, Hs, X, Gg, U, K, O)))) (cwV 2 hts gL_decode_X7_decode rfl rfl rfl (by decide +kernel) ⟨Nat.le_of_ble_eq_true rfl, Nat.le_of_ble_eq_true rfl⟩) (kN_full hP hD hS hA hE hK) hC (va_recv hK hP (ci := 7) (q0 := 1) rfl rfl) rfl hl.1 rfl (Nat.le_of_ble_eq_true rfl) dL_decode_5 ⟨Nat.le_of_ble_eq_true rfl, Nat.le_of_ble_eq_true rfl⟩ (fun E9 ce q9 H locs he hP hD hS h1 h2 h3 => ?_) (fun v H locs he => by cases he)
  cases he
  refine vx_catch (own := RL) (name := "java/lang/IllegalArgumentException") (E := "java/lang/IllegalArgumentException") hown [] ⟨0, 10, 13, 15⟩ [] (htab.trans rfl) (fun _ h9 => by cases h9) (by decide) (by decide) (hts (.classLink RL 15 "java/lang/IllegalArgumentException") (by decide +kernel)) (va_Nw.use rfl (hC.1 "java/lang/IllegalArgumentException" (by decide))) h1 h2 h3 ?_
  refine lv_astore (lv' := [(4, .ref q9), (0, .ref (w 0)), (1, .int x), (2, .int y), (3, .ref ao)]) hx hb dL_decode_13 hl (by decide) rfl (fun ls hl => ?_)
  refine n_iconst hx hb 1 dL_decode_15 (by decide) ?_
  subst hQ
  exact vx_ret (W.widen (k := 1) (n := 6) (by decide) (by decide) (e_rwi hx hb hr hlocks hS rfl hP hD dL_decode_16))
set_option maxHeartbeats 4000000 in
set_option maxRecDepth 100000 in
theorem c_L_decode_t2 (l : Launch) (hst : l.stackTraces = false) (G : va_G) (T : Nat → ClassId) (sz ao : Nat) (f : Nat → Int64) (w : Nat → Nat) (q : Nat → Nat) (qz : Nat → Nat) (h : Nat → Nat) (qs : Nat → Nat → Nat) (t : Nat → Nat) (gr : Nat → Nat) (u : Nat → Nat) (tr : Nat → Nat) (oc : Nat → Nat) (Sw : Nat → Nat → Int32) (S : Nat → Nat → Int32) (Z : Nat → Nat → Int32) (Sh : Nat → Nat → Int32) (Hs : Nat → Nat → Nat → Int32) (X : Nat → Nat → Int32) (Gg : Nat → Nat → Int32) (U : Nat → Nat → Int32) (K : Nat → Nat → Int32) (O : Nat → Nat → Int32) (kk : Nat) (y : Int32) (hk9 : kk < 7) (hby : pBt y 2 = false) : RWx l yL_decode wsL_decode 8 G T sz ([(ao, .inl (T 3, 1, .inr (.inl f)))] ++ oC T (w, q, qz, h, qs, t, gr, u, tr, oc) (Sw, S, Z, Sh, Hs, X, Gg, U, K, O)) [.ref (w 0), .int (nI kk), .int y, .ref ao] (nI 1) ([(ao, .inl (T 3, 1, .inr (.inl f)))] ++ oC T (w, q, qz, h, qs, t, gr, u, tr, oc) (Sw, S, Z, Sh, Hs, X, Gg, U, K, O)) := by
  refine met_vx (vx_ofWH (cc := cL_decode) (maxL := 5) (ret := (some .int)) (by decide) rfl ?_)
  intro p e s m args below meth c s₁ B hml hv
  obtain ⟨ha, ⟨⟨hsz, hP, hK, hD0, hE0⟩, hC⟩, hN9⟩ := hv
  have hx := B.exec
  have hb := B.bytes
  have hr := B.returns
  have hlocks := B.notSynchronized
  have hts := atoms_spec (ws := wsL_decode) B.pre
  have htab := vx_table (x := yL_decode) B (hts (.codeWith yL_decode cL_decode 5 (some .int) [(0, 10, 13, 15)]) List.mem_cons_self)
  have hown : s.vm.findClass RL = some m.cls := findClass_of_methodNamed B.named
  have cx : CallFix p m c cL_decode 5 s args wsL_decode RL := ⟨hx, hb, hml, hown, hts⟩
  subst hsz
  have hD := hD0.self (sz := s.heap.size)
  generalize hAe : va_A ([(ao, .inl (T 3, 1, .inr (.inl f)))] ++ oC T (w, q, qz, h, qs, t, gr, u, tr, oc) (Sw, S, Z, Sh, Hs, X, Gg, U, K, O)) s.heap.size = A at hD hE0 ⊢
  have hE : gE A s s.heap := hE0
  have hA : ∀ q : Nat, s.heap.size ≤ q → A q := fun q h => by rw [← hAe]; exact Or.inr h
  have hS : va_S A s.heap s.heap [] := va_S.rf
  refine w_entry ha (Nat.le_of_ble_eq_true rfl) (fun ls hl => ?_)
  refine w_q (fun Q0 hQ => ?_)
  have hl : lv_has ls 5 [(0, .ref (w 0)), (1, .int (nI kk)), (2, .int y), (3, .ref ao)] := hl
  refine w_h (fun H locs hHe hLe => ?_)
  have hP : va_P G vwCl ([(ao, .inl (T 3, 1, .inr (.inl f)))] ++ oC T (w, q, qz, h, qs, t, gr, u, tr, oc) (Sw, S, Z, Sh, Hs, X, Gg, U, K, O)) H := by rw [hHe]; exact hP
  have hS : va_S A s.heap H locs := by rw [hHe, hLe]; exact hS
  refine lv_aload_n hx hb dL_decode_0 rfl (lv_at hl 3 rfl) ?_
  refine n_iconst hx hb 0 dL_decode_1 (by decide) ?_
  refine lv_aload_n hx hb dL_decode_2 rfl (lv_at hl 0 rfl) ?_
  refine lv_iload_n hx hb dL_decode_3 rfl (lv_at hl 1 rfl) ?_
  refine lv_iload_n hx hb dL_decode_4 rfl (lv_at hl 2 rfl) ?_
  refine k_rxV (As := [.int (nI kk), .int y]) (rest := [.int (nI 0), .ref ao]) (wc := [(ao, .inl (T 3, 1, .inr (.inl f)))] ++ oC T (w, q, qz, h, qs, t, gr, u, tr, oc) (Sw, S, Z, Sh, Hs, X, Gg, U, K, O)) (wr := []) (w1 := [(ao, .inl (T 3, 1, .inr (.inl f)))] ++ oC T (w, q, qz, h, qs, t, gr, u, tr, oc) (Sw, S, Z, Sh, Hs, X, Gg, U, K, O)) (d := 7) cx (RX.fr (w_X7_decode_t2 l hst G T H.size w q qz h qs t gr u tr oc Sw S Z Sh Hs X Gg U K O kk y hk9 hby) (Fr.head [(ao, .inl (T 3, 1, .inr (.inl f)))] (oC T (w, q, qz, h, qs, t, gr, u, tr, oc) (Sw, S, Z, Sh, Hs, X, Gg, U, K, O)) (oC T (w, q, qz, h, qs, t, gr, u, tr, oc) (Sw, S, Z, Sh, Hs, X, Gg, U, K, O)))) (cwV 2 hts gL_decode_X7_decode rfl rfl rfl (by decide +kernel) ⟨Nat.le_of_ble_eq_true rfl, Nat.le_of_ble_eq_true rfl⟩) (kN_full hP hD hS hA hE hK) hC (va_recv hK hP (ci := 7) (q0 := 1) rfl rfl) rfl hl.1 rfl (Nat.le_of_ble_eq_true rfl) dL_decode_5 ⟨Nat.le_of_ble_eq_true rfl, Nat.le_of_ble_eq_true rfl⟩ (fun E9 ce q9 H locs he hP hD hS h1 h2 h3 => ?_) (fun v H locs he => by cases he)
  cases he
  refine vx_catch (own := RL) (name := "java/lang/IllegalArgumentException") (E := "java/lang/IllegalArgumentException") hown [] ⟨0, 10, 13, 15⟩ [] (htab.trans rfl) (fun _ h9 => by cases h9) (by decide) (by decide) (hts (.classLink RL 15 "java/lang/IllegalArgumentException") (by decide +kernel)) (va_Nw.use rfl (hC.1 "java/lang/IllegalArgumentException" (by decide))) h1 h2 h3 ?_
  refine lv_astore (lv' := [(4, .ref q9), (0, .ref (w 0)), (1, .int (nI kk)), (2, .int y), (3, .ref ao)]) hx hb dL_decode_13 hl (by decide) rfl (fun ls hl => ?_)
  refine n_iconst hx hb 1 dL_decode_15 (by decide) ?_
  subst hQ
  exact vx_ret (W.widen (k := 1) (n := 6) (by decide) (by decide) (e_rwi hx hb hr hlocks hS rfl hP hD dL_decode_16))
set_option maxHeartbeats 4000000 in
set_option maxRecDepth 100000 in
theorem c_L_decode_t3 (l : Launch) (hst : l.stackTraces = false) (G : va_G) (T : Nat → ClassId) (sz ao : Nat) (f : Nat → Int64) (w : Nat → Nat) (q : Nat → Nat) (qz : Nat → Nat) (h : Nat → Nat) (qs : Nat → Nat → Nat) (t : Nat → Nat) (gr : Nat → Nat) (u : Nat → Nat) (tr : Nat → Nat) (oc : Nat → Nat) (Sw : Nat → Nat → Int32) (S : Nat → Nat → Int32) (Z : Nat → Nat → Int32) (Sh : Nat → Nat → Int32) (Hs : Nat → Nat → Nat → Int32) (X : Nat → Nat → Int32) (Gg : Nat → Nat → Int32) (U : Nat → Nat → Int32) (K : Nat → Nat → Int32) (O : Nat → Nat → Int32) (n : Nat) (cd : Nat → Nat) (kk : Nat) (ww : Nat) (hlen : X 0 1 = nI n) (hn60 : n ≤ 60) (hcd : ∀ i : Nat, i < n → X 1 i = nI (cd i)) (hc127 : ∀ i : Nat, i < n → cd i < 127) (hk9 : kk < 7) (hww : ww ≤ 1) (hbF : bT cd n = false) : RWx l yL_decode wsL_decode 14 G T sz ([(ao, .inl (T 3, 1, .inr (.inl f)))] ++ oC T (w, q, qz, h, qs, t, gr, u, tr, oc) (Sw, S, Z, Sh, Hs, X, Gg, U, K, O)) [.ref (w 0), .int (nI kk), .int (nI ww), .ref ao] (nI 1) ([(ao, .inl (T 3, 1, .inr (.inl f)))] ++ oC T (w, q, qz, h, qs, t, gr, u, tr, oc) (Sw, S, Z, Sh, Hs, X, gGr Gg cd n 4 false, rTu U cd n, K, O)) := by
  refine met_vx (vx_ofWH (cc := cL_decode) (maxL := 5) (ret := (some .int)) (by decide) rfl ?_)
  intro p e s m args below meth c s₁ B hml hv
  obtain ⟨ha, ⟨⟨hsz, hP, hK, hD0, hE0⟩, hC⟩, hN9⟩ := hv
  have hx := B.exec
  have hb := B.bytes
  have hr := B.returns
  have hlocks := B.notSynchronized
  have hts := atoms_spec (ws := wsL_decode) B.pre
  have htab := vx_table (x := yL_decode) B (hts (.codeWith yL_decode cL_decode 5 (some .int) [(0, 10, 13, 15)]) List.mem_cons_self)
  have hown : s.vm.findClass RL = some m.cls := findClass_of_methodNamed B.named
  have cx : CallFix p m c cL_decode 5 s args wsL_decode RL := ⟨hx, hb, hml, hown, hts⟩
  subst hsz
  have hD := hD0.self (sz := s.heap.size)
  generalize hAe : va_A ([(ao, .inl (T 3, 1, .inr (.inl f)))] ++ oC T (w, q, qz, h, qs, t, gr, u, tr, oc) (Sw, S, Z, Sh, Hs, X, Gg, U, K, O)) s.heap.size = A at hD hE0 ⊢
  have hE : gE A s s.heap := hE0
  have hA : ∀ q : Nat, s.heap.size ≤ q → A q := fun q h => by rw [← hAe]; exact Or.inr h
  have hS : va_S A s.heap s.heap [] := va_S.rf
  refine w_entry ha (Nat.le_of_ble_eq_true rfl) (fun ls hl => ?_)
  refine w_q (fun Q0 hQ => ?_)
  have hl : lv_has ls 5 [(0, .ref (w 0)), (1, .int (nI kk)), (2, .int (nI ww)), (3, .ref ao)] := hl
  refine w_h (fun H locs hHe hLe => ?_)
  have hP : va_P G vwCl ([(ao, .inl (T 3, 1, .inr (.inl f)))] ++ oC T (w, q, qz, h, qs, t, gr, u, tr, oc) (Sw, S, Z, Sh, Hs, X, Gg, U, K, O)) H := by rw [hHe]; exact hP
  have hS : va_S A s.heap H locs := by rw [hHe, hLe]; exact hS
  refine lv_aload_n hx hb dL_decode_0 rfl (lv_at hl 3 rfl) ?_
  refine n_iconst hx hb 0 dL_decode_1 (by decide) ?_
  refine lv_aload_n hx hb dL_decode_2 rfl (lv_at hl 0 rfl) ?_
  refine lv_iload_n hx hb dL_decode_3 rfl (lv_at hl 1 rfl) ?_
  refine lv_iload_n hx hb dL_decode_4 rfl (lv_at hl 2 rfl) ?_
  refine k_rxV (As := [.int (nI kk), .int (nI ww)]) (rest := [.int (nI 0), .ref ao]) (wc := [(ao, .inl (T 3, 1, .inr (.inl f)))] ++ oC T (w, q, qz, h, qs, t, gr, u, tr, oc) (Sw, S, Z, Sh, Hs, X, Gg, U, K, O)) (wr := []) (w1 := [(ao, .inl (T 3, 1, .inr (.inl f)))] ++ oC T (w, q, qz, h, qs, t, gr, u, tr, oc) (Sw, S, Z, Sh, Hs, X, gGr Gg cd n 4 false, rTu U cd n, K, O)) (d := 13) cx (RX.fr (w_X7_decode_t3 l hst G T H.size w q qz h qs t gr u tr oc Sw S Z Sh Hs X Gg U K O n cd kk ww hlen hn60 hcd hc127 hk9 hww hbF) (Fr.head [(ao, .inl (T 3, 1, .inr (.inl f)))] (oC T (w, q, qz, h, qs, t, gr, u, tr, oc) (Sw, S, Z, Sh, Hs, X, Gg, U, K, O)) (oC T (w, q, qz, h, qs, t, gr, u, tr, oc) (Sw, S, Z, Sh, Hs, X, gGr Gg cd n 4 false, rTu U cd n, K, O)))) (cwV 2 hts gL_decode_X7_decode rfl rfl rfl (by decide +kernel) ⟨Nat.le_of_ble_eq_true rfl, Nat.le_of_ble_eq_true rfl⟩) (kN_full hP hD hS hA hE hK) hC (va_recv hK hP (ci := 7) (q0 := 1) rfl rfl) rfl hl.1 rfl (Nat.le_of_ble_eq_true rfl) dL_decode_5 ⟨Nat.le_of_ble_eq_true rfl, Nat.le_of_ble_eq_true rfl⟩ (fun E9 ce q9 H locs he hP hD hS h1 h2 h3 => ?_) (fun v H locs he => by cases he)
  cases he
  refine vx_catch (own := RL) (name := "java/lang/IllegalArgumentException") (E := "java/lang/IllegalArgumentException") hown [] ⟨0, 10, 13, 15⟩ [] (htab.trans rfl) (fun _ h9 => by cases h9) (by decide) (by decide) (hts (.classLink RL 15 "java/lang/IllegalArgumentException") (by decide +kernel)) (va_Nw.use rfl (hC.1 "java/lang/IllegalArgumentException" (by decide))) h1 h2 h3 ?_
  refine lv_astore (lv' := [(4, .ref q9), (0, .ref (w 0)), (1, .int (nI kk)), (2, .int (nI ww)), (3, .ref ao)]) hx hb dL_decode_13 hl (by decide) rfl (fun ls hl => ?_)
  refine n_iconst hx hb 1 dL_decode_15 (by decide) ?_
  subst hQ
  exact vx_ret (W.widen (k := 1) (n := 6) (by decide) (by decide) (e_rwi hx hb hr hlocks hS rfl hP hD dL_decode_16))
set_option maxHeartbeats 4000000 in
set_option maxRecDepth 100000 in
theorem c_L_keyOf (l : Launch) (hst : l.stackTraces = false) (G : va_G) (T : Nat → ClassId) (sz ao : Nat) (f : Nat → Int64) (w : Nat → Nat) (q : Nat → Nat) (qz : Nat → Nat) (h : Nat → Nat) (qs : Nat → Nat → Nat) (t : Nat → Nat) (gr : Nat → Nat) (u : Nat → Nat) (tr : Nat → Nat) (oc : Nat → Nat) (Sw : Nat → Nat → Int32) (S : Nat → Nat → Int32) (Z : Nat → Nat → Int32) (Sh : Nat → Nat → Int32) (Hs : Nat → Nat → Nat → Int32) (X : Nat → Nat → Int32) (Gg : Nat → Nat → Int32) (U : Nat → Nat → Int32) (K : Nat → Nat → Int32) (O : Nat → Nat → Int32) (n : Nat) (cd : Nat → Nat) (tl : Nat → Nat) (hlen : X 0 1 = nI n) (hn60 : n ≤ 60) (hcd : ∀ i : Nat, i < n → X 1 i = nI (cd i)) (hc127 : ∀ i : Nat, i < n → cd i < 127) (htl : ∀ i : Nat, i < 20 → S 6 i = nI (tl i)) (htl8 : ∀ i : Nat, i < 20 → tl i ≤ 8) (hbT : bT cd n = true) : RWx l yL_keyOf wsL_keyOf 14 G T sz ([(ao, .inl (T 3, 1, .inr (.inl f)))] ++ oC T (w, q, qz, h, qs, t, gr, u, tr, oc) (Sw, S, Z, Sh, Hs, X, Gg, U, K, O)) [.ref (w 0), .ref ao] (nI 0) ([(ao, .inl (T 3, 1, .inr (.inl (vp_updL f 0 ((pKO S tl (rTu U cd n) (ntT cd n U))).toInt64))))] ++ oC T (w, q, qz, h, qs, t, gr, u, tr, oc) (Sw, S, Z, Sh, Hs, X, gGr Gg cd n 4 false, rTu U cd n, gTO K S tl (ntT cd n U), O)) := by
  refine met_vx (vx_ofWH (cc := cL_keyOf) (maxL := 3) (ret := (some .int)) (by decide) rfl ?_)
  intro p e s m args below meth c s₁ B hml hv
  obtain ⟨ha, ⟨⟨hsz, hP, hK, hD0, hE0⟩, hC⟩, hN9⟩ := hv
  have hx := B.exec
  have hb := B.bytes
  have hr := B.returns
  have hlocks := B.notSynchronized
  have hts := atoms_spec (ws := wsL_keyOf) B.pre
  have htab := vx_table (x := yL_keyOf) B (hts (.codeWith yL_keyOf cL_keyOf 3 (some .int) [(0, 8, 11, 15)]) List.mem_cons_self)
  have hown : s.vm.findClass RL = some m.cls := findClass_of_methodNamed B.named
  have cx : CallFix p m c cL_keyOf 3 s args wsL_keyOf RL := ⟨hx, hb, hml, hown, hts⟩
  subst hsz
  have hD := hD0.self (sz := s.heap.size)
  generalize hAe : va_A ([(ao, .inl (T 3, 1, .inr (.inl f)))] ++ oC T (w, q, qz, h, qs, t, gr, u, tr, oc) (Sw, S, Z, Sh, Hs, X, Gg, U, K, O)) s.heap.size = A at hD hE0 ⊢
  have hE : gE A s s.heap := hE0
  have hA : ∀ q : Nat, s.heap.size ≤ q → A q := fun q h => by rw [← hAe]; exact Or.inr h
  have hS : va_S A s.heap s.heap [] := va_S.rf
  refine w_entry ha (Nat.le_of_ble_eq_true rfl) (fun ls hl => ?_)
  refine w_q (fun Q0 hQ => ?_)
  have hl : lv_has ls 3 [(0, .ref (w 0)), (1, .ref ao)] := hl
  refine w_h (fun H locs hHe hLe => ?_)
  have hP : va_P G vwCl ([(ao, .inl (T 3, 1, .inr (.inl f)))] ++ oC T (w, q, qz, h, qs, t, gr, u, tr, oc) (Sw, S, Z, Sh, Hs, X, Gg, U, K, O)) H := by rw [hHe]; exact hP
  have hS : va_S A s.heap H locs := by rw [hHe, hLe]; exact hS
  refine lv_aload_n hx hb dL_keyOf_0 rfl (lv_at hl 1 rfl) ?_
  refine n_iconst hx hb 0 dL_keyOf_1 (by decide) ?_
  refine lv_aload_n hx hb dL_keyOf_2 rfl (lv_at hl 0 rfl) ?_
  refine k_rwV (As := []) (rest := [.int (nI 0), .ref ao]) (wc := [(ao, .inl (T 3, 1, .inr (.inl f)))] ++ oC T (w, q, qz, h, qs, t, gr, u, tr, oc) (Sw, S, Z, Sh, Hs, X, Gg, U, K, O)) (wr := []) (w1 := [(ao, .inl (T 3, 1, .inr (.inl f)))] ++ oC T (w, q, qz, h, qs, t, gr, u, tr, oc) (Sw, S, Z, Sh, Hs, X, gGr Gg cd n 4 false, rTu U cd n, gTO K S tl (ntT cd n U), O)) (d := 13) (mc := 0) (ms := 0) (v := pKO S tl (rTu U cd n) (ntT cd n U)) cx (RWi.fr (w_X7_keyOf l G T H.size w q qz h qs t gr u tr oc Sw S Z Sh Hs X Gg U K O n cd tl hlen hn60 hcd hc127 htl htl8 hbT) (Fr.head [(ao, .inl (T 3, 1, .inr (.inl f)))] (oC T (w, q, qz, h, qs, t, gr, u, tr, oc) (Sw, S, Z, Sh, Hs, X, Gg, U, K, O)) (oC T (w, q, qz, h, qs, t, gr, u, tr, oc) (Sw, S, Z, Sh, Hs, X, gGr Gg cd n 4 false, rTu U cd n, gTO K S tl (ntT cd n U), O)))) (cwV 0 hts gL_keyOf_X7_keyOf rfl rfl rfl (by decide +kernel) ⟨Nat.le_of_ble_eq_true rfl, Nat.le_of_ble_eq_true rfl⟩) (kN_full hP hD hS hA hE hK) (va_recv hK hP (ci := 7) (q0 := 1) rfl rfl) rfl hl.1 rfl (Nat.le_of_ble_eq_true rfl) dL_keyOf_3 ⟨Nat.le_of_ble_eq_true rfl, Nat.le_of_ble_eq_true rfl⟩ (fun H locs hP hD hS hz => ?_)
  have hP : va_P G vwCl ([(ao, .inl (T 3, 1, .inr (.inl f)))] ++ oC T (w, q, qz, h, qs, t, gr, u, tr, oc) (Sw, S, Z, Sh, Hs, X, gGr Gg cd n 4 false, rTu U cd n, gTO K S tl (ntT cd n U), O)) H := hP
  have hD : va_D A ([(ao, .inl (T 3, 1, .inr (.inl f)))] ++ oC T (w, q, qz, h, qs, t, gr, u, tr, oc) (Sw, S, Z, Sh, Hs, X, gGr Gg cd n 4 false, rTu U cd n, gTO K S tl (ntT cd n U), O)) := hD
  refine lv_i2l (v := (pKO S tl (rTu U cd n) (ntT cd n U)).toInt64) hx hb dL_keyOf_6 rfl ?_
  refine va_last hx hb hK hP hD hS 0 3 rfl rfl (vp_in_nI (show 0 < 1 by decide) (by decide)) dL_keyOf_7 (fun H locs hP hD hS => ?_)
  have hP : va_P G vwCl ([(ao, .inl (T 3, 1, .inr (.inl (vp_updL f 0 ((pKO S tl (rTu U cd n) (ntT cd n U))).toInt64))))] ++ oC T (w, q, qz, h, qs, t, gr, u, tr, oc) (Sw, S, Z, Sh, Hs, X, gGr Gg cd n 4 false, rTu U cd n, gTO K S tl (ntT cd n U), O)) H := hP
  have hD : va_D A ([(ao, .inl (T 3, 1, .inr (.inl (vp_updL f 0 ((pKO S tl (rTu U cd n) (ntT cd n U))).toInt64))))] ++ oC T (w, q, qz, h, qs, t, gr, u, tr, oc) (Sw, S, Z, Sh, Hs, X, gGr Gg cd n 4 false, rTu U cd n, gTO K S tl (ntT cd n U), O)) := hD
  refine lv_goto (tgt := 14) hx hb dL_keyOf_8 (by decide) ?_
  refine n_iconst hx hb 0 dL_keyOf_14 (by decide) ?_
  subst hQ
  exact vx_ret (W.widen (k := 1) (n := 6) (by decide) (by decide) (e_rwi hx hb hr hlocks hS rfl hP hD dL_keyOf_15))
set_option maxHeartbeats 4000000 in
set_option maxRecDepth 100000 in
theorem c_L_keyOf_t (l : Launch) (hst : l.stackTraces = false) (G : va_G) (T : Nat → ClassId) (sz ao : Nat) (f : Nat → Int64) (w : Nat → Nat) (q : Nat → Nat) (qz : Nat → Nat) (h : Nat → Nat) (qs : Nat → Nat → Nat) (t : Nat → Nat) (gr : Nat → Nat) (u : Nat → Nat) (tr : Nat → Nat) (oc : Nat → Nat) (Sw : Nat → Nat → Int32) (S : Nat → Nat → Int32) (Z : Nat → Nat → Int32) (Sh : Nat → Nat → Int32) (Hs : Nat → Nat → Nat → Int32) (X : Nat → Nat → Int32) (Gg : Nat → Nat → Int32) (U : Nat → Nat → Int32) (K : Nat → Nat → Int32) (O : Nat → Nat → Int32) (n : Nat) (cd : Nat → Nat) (hlen : X 0 1 = nI n) (hn60 : n ≤ 60) (hcd : ∀ i : Nat, i < n → X 1 i = nI (cd i)) (hc127 : ∀ i : Nat, i < n → cd i < 127) (hbF : bT cd n = false) : RWx l yL_keyOf wsL_keyOf 14 G T sz ([(ao, .inl (T 3, 1, .inr (.inl f)))] ++ oC T (w, q, qz, h, qs, t, gr, u, tr, oc) (Sw, S, Z, Sh, Hs, X, Gg, U, K, O)) [.ref (w 0), .ref ao] (nI 1) ([(ao, .inl (T 3, 1, .inr (.inl f)))] ++ oC T (w, q, qz, h, qs, t, gr, u, tr, oc) (Sw, S, Z, Sh, Hs, X, gGr Gg cd n 4 false, rTu U cd n, K, O)) := by
  refine met_vx (vx_ofWH (cc := cL_keyOf) (maxL := 3) (ret := (some .int)) (by decide) rfl ?_)
  intro p e s m args below meth c s₁ B hml hv
  obtain ⟨ha, ⟨⟨hsz, hP, hK, hD0, hE0⟩, hC⟩, hN9⟩ := hv
  have hx := B.exec
  have hb := B.bytes
  have hr := B.returns
  have hlocks := B.notSynchronized
  have hts := atoms_spec (ws := wsL_keyOf) B.pre
  have htab := vx_table (x := yL_keyOf) B (hts (.codeWith yL_keyOf cL_keyOf 3 (some .int) [(0, 8, 11, 15)]) List.mem_cons_self)
  have hown : s.vm.findClass RL = some m.cls := findClass_of_methodNamed B.named
  have cx : CallFix p m c cL_keyOf 3 s args wsL_keyOf RL := ⟨hx, hb, hml, hown, hts⟩
  subst hsz
  have hD := hD0.self (sz := s.heap.size)
  generalize hAe : va_A ([(ao, .inl (T 3, 1, .inr (.inl f)))] ++ oC T (w, q, qz, h, qs, t, gr, u, tr, oc) (Sw, S, Z, Sh, Hs, X, Gg, U, K, O)) s.heap.size = A at hD hE0 ⊢
  have hE : gE A s s.heap := hE0
  have hA : ∀ q : Nat, s.heap.size ≤ q → A q := fun q h => by rw [← hAe]; exact Or.inr h
  have hS : va_S A s.heap s.heap [] := va_S.rf
  refine w_entry ha (Nat.le_of_ble_eq_true rfl) (fun ls hl => ?_)
  refine w_q (fun Q0 hQ => ?_)
  have hl : lv_has ls 3 [(0, .ref (w 0)), (1, .ref ao)] := hl
  refine w_h (fun H locs hHe hLe => ?_)
  have hP : va_P G vwCl ([(ao, .inl (T 3, 1, .inr (.inl f)))] ++ oC T (w, q, qz, h, qs, t, gr, u, tr, oc) (Sw, S, Z, Sh, Hs, X, Gg, U, K, O)) H := by rw [hHe]; exact hP
  have hS : va_S A s.heap H locs := by rw [hHe, hLe]; exact hS
  refine lv_aload_n hx hb dL_keyOf_0 rfl (lv_at hl 1 rfl) ?_
  refine n_iconst hx hb 0 dL_keyOf_1 (by decide) ?_
  refine lv_aload_n hx hb dL_keyOf_2 rfl (lv_at hl 0 rfl) ?_
  refine k_rxV (As := []) (rest := [.int (nI 0), .ref ao]) (wc := [(ao, .inl (T 3, 1, .inr (.inl f)))] ++ oC T (w, q, qz, h, qs, t, gr, u, tr, oc) (Sw, S, Z, Sh, Hs, X, Gg, U, K, O)) (wr := []) (w1 := [(ao, .inl (T 3, 1, .inr (.inl f)))] ++ oC T (w, q, qz, h, qs, t, gr, u, tr, oc) (Sw, S, Z, Sh, Hs, X, gGr Gg cd n 4 false, rTu U cd n, K, O)) (d := 13) cx (RX.fr (w_X7_keyOf_t l hst G T H.size w q qz h qs t gr u tr oc Sw S Z Sh Hs X Gg U K O n cd hlen hn60 hcd hc127 hbF) (Fr.head [(ao, .inl (T 3, 1, .inr (.inl f)))] (oC T (w, q, qz, h, qs, t, gr, u, tr, oc) (Sw, S, Z, Sh, Hs, X, Gg, U, K, O)) (oC T (w, q, qz, h, qs, t, gr, u, tr, oc) (Sw, S, Z, Sh, Hs, X, gGr Gg cd n 4 false, rTu U cd n, K, O)))) (cwV 0 hts gL_keyOf_X7_keyOf rfl rfl rfl (by decide +kernel) ⟨Nat.le_of_ble_eq_true rfl, Nat.le_of_ble_eq_true rfl⟩) (kN_full hP hD hS hA hE hK) hC (va_recv hK hP (ci := 7) (q0 := 1) rfl rfl) rfl hl.1 rfl (Nat.le_of_ble_eq_true rfl) dL_keyOf_3 ⟨Nat.le_of_ble_eq_true rfl, Nat.le_of_ble_eq_true rfl⟩ (fun E9 ce q9 H locs he hP hD hS h1 h2 h3 => ?_) (fun v H locs he => by cases he)
  cases he
  refine vx_catch (own := RL) (name := "java/lang/IllegalArgumentException") (E := "java/lang/IllegalArgumentException") hown [] ⟨0, 8, 11, 15⟩ [] (htab.trans rfl) (fun _ h9 => by cases h9) (by decide) (by decide) (hts (.classLink RL 15 "java/lang/IllegalArgumentException") (by decide +kernel)) (va_Nw.use rfl (hC.1 "java/lang/IllegalArgumentException" (by decide))) h1 h2 h3 ?_
  refine lv_astore_n (lv' := [(2, .ref q9), (0, .ref (w 0)), (1, .ref ao)]) hx hb dL_keyOf_11 rfl hl (by decide) rfl (fun ls hl => ?_)
  refine n_iconst hx hb 1 dL_keyOf_12 (by decide) ?_
  subst hQ
  exact vx_ret (W.widen (k := 1) (n := 6) (by decide) (by decide) (e_rwi hx hb hr hlocks hS rfl hP hD dL_keyOf_13))
set_option maxHeartbeats 4000000 in
set_option maxRecDepth 100000 in
theorem c_L_teach (l : Launch) (hst : l.stackTraces = false) (G : va_G) (T : Nat → ClassId) (sz ao : Nat) (f : Nat → Int64) (w : Nat → Nat) (q : Nat → Nat) (qz : Nat → Nat) (h : Nat → Nat) (qs : Nat → Nat → Nat) (t : Nat → Nat) (gr : Nat → Nat) (u : Nat → Nat) (tr : Nat → Nat) (oc : Nat → Nat) (Sw : Nat → Nat → Int32) (S : Nat → Nat → Int32) (Z : Nat → Nat → Int32) (Sh : Nat → Nat → Int32) (Hs : Nat → Nat → Nat → Int32) (X : Nat → Nat → Int32) (Gg : Nat → Nat → Int32) (U : Nat → Nat → Int32) (K : Nat → Nat → Int32) (O : Nat → Nat → Int32) (n : Nat) (cd : Nat → Nat) (tl : Nat → Nat) (o : Nat) (nh : Nat) (mm : Nat) (hlen : X 0 1 = nI n) (hn60 : n ≤ 60) (hcd : ∀ i : Nat, i < n → X 1 i = nI (cd i)) (hc127 : ∀ i : Nat, i < n → cd i < 127) (htl : ∀ i : Nat, i < 20 → S 6 i = nI (tl i)) (htl8 : ∀ i : Nat, i < 20 → tl i ≤ 8) (ho : Sh 0 1 = nI o) (hnh : Sh 0 2 = nI nh) (ho6 : o < 6) (hn6 : nh ≤ 6) (hm20 : mm < 20) (hbT : bT cd n = true) (hra : pRA S tl (rTu U cd n) (ntT cd n U) mm = nI 0) : RWx l yL_teach wsL_teach 14 G T sz ([(ao, .inl (T 3, 1, .inr (.inl f)))] ++ oC T (w, q, qz, h, qs, t, gr, u, tr, oc) (Sw, S, Z, Sh, Hs, X, Gg, U, K, O)) [.ref (w 0), .int (nI mm), .ref ao] (nI 0) ([(ao, .inl (T 3, 1, .inr (.inl (vp_updL f 0 ((nI (ntT cd n U))).toInt64))))] ++ oC T (w, q, qz, h, qs, t, gr, u, tr, oc) (Sw, sa (sa S 6 (upd (S 6) mm (nI (ntT cd n U)))) 7 (va_cpy (rTu U cd n 1) (S 7) 0 (mm * 8) (ntT cd n U)), Z, sc (sc Sh 1 (nI (hPo o nh))) 2 (nI (hPn nh)), updS Hs (hPi o nh) S, sc X 1 (nI 0), gGr Gg cd n 4 false, rTu U cd n, gTO K S tl (ntT cd n U), O)) := by
  refine met_vx (vx_ofWH (cc := cL_teach) (maxL := 4) (ret := (some .int)) (by decide) rfl ?_)
  intro p e s m args below meth c s₁ B hml hv
  obtain ⟨ha, ⟨⟨hsz, hP, hK, hD0, hE0⟩, hC⟩, hN9⟩ := hv
  have hx := B.exec
  have hb := B.bytes
  have hr := B.returns
  have hlocks := B.notSynchronized
  have hts := atoms_spec (ws := wsL_teach) B.pre
  have htab := vx_table (x := yL_teach) B (hts (.codeWith yL_teach cL_teach 4 (some .int) [(0, 9, 12, 13), (0, 9, 15, 15), (0, 9, 18, 17)]) List.mem_cons_self)
  have hown : s.vm.findClass RL = some m.cls := findClass_of_methodNamed B.named
  have cx : CallFix p m c cL_teach 4 s args wsL_teach RL := ⟨hx, hb, hml, hown, hts⟩
  subst hsz
  have hD := hD0.self (sz := s.heap.size)
  generalize hAe : va_A ([(ao, .inl (T 3, 1, .inr (.inl f)))] ++ oC T (w, q, qz, h, qs, t, gr, u, tr, oc) (Sw, S, Z, Sh, Hs, X, Gg, U, K, O)) s.heap.size = A at hD hE0 ⊢
  have hE : gE A s s.heap := hE0
  have hA : ∀ q : Nat, s.heap.size ≤ q → A q := fun q h => by rw [← hAe]; exact Or.inr h
  have hS : va_S A s.heap s.heap [] := va_S.rf
  refine w_entry ha (Nat.le_of_ble_eq_true rfl) (fun ls hl => ?_)
  refine w_q (fun Q0 hQ => ?_)
  have hl : lv_has ls 4 [(0, .ref (w 0)), (1, .int (nI mm)), (2, .ref ao)] := hl
  refine w_h (fun H locs hHe hLe => ?_)
  have hP : va_P G vwCl ([(ao, .inl (T 3, 1, .inr (.inl f)))] ++ oC T (w, q, qz, h, qs, t, gr, u, tr, oc) (Sw, S, Z, Sh, Hs, X, Gg, U, K, O)) H := by rw [hHe]; exact hP
  have hS : va_S A s.heap H locs := by rw [hHe, hLe]; exact hS
  refine lv_aload_n hx hb dL_teach_0 rfl (lv_at hl 2 rfl) ?_
  refine n_iconst hx hb 0 dL_teach_1 (by decide) ?_
  refine lv_aload_n hx hb dL_teach_2 rfl (lv_at hl 0 rfl) ?_
  refine lv_iload_n hx hb dL_teach_3 rfl (lv_at hl 1 rfl) ?_
  refine k_rwV (As := [.int (nI mm)]) (rest := [.int (nI 0), .ref ao]) (wc := [(ao, .inl (T 3, 1, .inr (.inl f)))] ++ oC T (w, q, qz, h, qs, t, gr, u, tr, oc) (Sw, S, Z, Sh, Hs, X, Gg, U, K, O)) (wr := []) (w1 := [(ao, .inl (T 3, 1, .inr (.inl f)))] ++ oC T (w, q, qz, h, qs, t, gr, u, tr, oc) (Sw, sa (sa S 6 (upd (S 6) mm (nI (ntT cd n U)))) 7 (va_cpy (rTu U cd n 1) (S 7) 0 (mm * 8) (ntT cd n U)), Z, sc (sc Sh 1 (nI (hPo o nh))) 2 (nI (hPn nh)), updS Hs (hPi o nh) S, sc X 1 (nI 0), gGr Gg cd n 4 false, rTu U cd n, gTO K S tl (ntT cd n U), O)) (d := 13) (mc := 0) (ms := 0) (v := nI (ntT cd n U)) cx (RWi.fr (w_X7_teach l G T H.size w q qz h qs t gr u tr oc Sw S Z Sh Hs X Gg U K O n cd tl o nh mm hlen hn60 hcd hc127 htl htl8 ho hnh ho6 hn6 hm20 hbT hra) (Fr.head [(ao, .inl (T 3, 1, .inr (.inl f)))] (oC T (w, q, qz, h, qs, t, gr, u, tr, oc) (Sw, S, Z, Sh, Hs, X, Gg, U, K, O)) (oC T (w, q, qz, h, qs, t, gr, u, tr, oc) (Sw, sa (sa S 6 (upd (S 6) mm (nI (ntT cd n U)))) 7 (va_cpy (rTu U cd n 1) (S 7) 0 (mm * 8) (ntT cd n U)), Z, sc (sc Sh 1 (nI (hPo o nh))) 2 (nI (hPn nh)), updS Hs (hPi o nh) S, sc X 1 (nI 0), gGr Gg cd n 4 false, rTu U cd n, gTO K S tl (ntT cd n U), O)))) (cwV 1 hts gL_teach_X7_teach rfl rfl rfl (by decide +kernel) ⟨Nat.le_of_ble_eq_true rfl, Nat.le_of_ble_eq_true rfl⟩) (kN_full hP hD hS hA hE hK) (va_recv hK hP (ci := 7) (q0 := 1) rfl rfl) rfl hl.1 rfl (Nat.le_of_ble_eq_true rfl) dL_teach_4 ⟨Nat.le_of_ble_eq_true rfl, Nat.le_of_ble_eq_true rfl⟩ (fun H locs hP hD hS hz => ?_)
  have hP : va_P G vwCl ([(ao, .inl (T 3, 1, .inr (.inl f)))] ++ oC T (w, q, qz, h, qs, t, gr, u, tr, oc) (Sw, sa (sa S 6 (upd (S 6) mm (nI (ntT cd n U)))) 7 (va_cpy (rTu U cd n 1) (S 7) 0 (mm * 8) (ntT cd n U)), Z, sc (sc Sh 1 (nI (hPo o nh))) 2 (nI (hPn nh)), updS Hs (hPi o nh) S, sc X 1 (nI 0), gGr Gg cd n 4 false, rTu U cd n, gTO K S tl (ntT cd n U), O)) H := hP
  have hD : va_D A ([(ao, .inl (T 3, 1, .inr (.inl f)))] ++ oC T (w, q, qz, h, qs, t, gr, u, tr, oc) (Sw, sa (sa S 6 (upd (S 6) mm (nI (ntT cd n U)))) 7 (va_cpy (rTu U cd n 1) (S 7) 0 (mm * 8) (ntT cd n U)), Z, sc (sc Sh 1 (nI (hPo o nh))) 2 (nI (hPn nh)), updS Hs (hPi o nh) S, sc X 1 (nI 0), gGr Gg cd n 4 false, rTu U cd n, gTO K S tl (ntT cd n U), O)) := hD
  refine lv_i2l (v := (nI (ntT cd n U)).toInt64) hx hb dL_teach_7 rfl ?_
  refine va_last hx hb hK hP hD hS 0 3 rfl rfl (vp_in_nI (show 0 < 1 by decide) (by decide)) dL_teach_8 (fun H locs hP hD hS => ?_)
  have hP : va_P G vwCl ([(ao, .inl (T 3, 1, .inr (.inl (vp_updL f 0 ((nI (ntT cd n U))).toInt64))))] ++ oC T (w, q, qz, h, qs, t, gr, u, tr, oc) (Sw, sa (sa S 6 (upd (S 6) mm (nI (ntT cd n U)))) 7 (va_cpy (rTu U cd n 1) (S 7) 0 (mm * 8) (ntT cd n U)), Z, sc (sc Sh 1 (nI (hPo o nh))) 2 (nI (hPn nh)), updS Hs (hPi o nh) S, sc X 1 (nI 0), gGr Gg cd n 4 false, rTu U cd n, gTO K S tl (ntT cd n U), O)) H := hP
  have hD : va_D A ([(ao, .inl (T 3, 1, .inr (.inl (vp_updL f 0 ((nI (ntT cd n U))).toInt64))))] ++ oC T (w, q, qz, h, qs, t, gr, u, tr, oc) (Sw, sa (sa S 6 (upd (S 6) mm (nI (ntT cd n U)))) 7 (va_cpy (rTu U cd n 1) (S 7) 0 (mm * 8) (ntT cd n U)), Z, sc (sc Sh 1 (nI (hPo o nh))) 2 (nI (hPn nh)), updS Hs (hPi o nh) S, sc X 1 (nI 0), gGr Gg cd n 4 false, rTu U cd n, gTO K S tl (ntT cd n U), O)) := hD
  refine lv_goto (tgt := 21) hx hb dL_teach_9 (by decide) ?_
  refine n_iconst hx hb 0 dL_teach_21 (by decide) ?_
  subst hQ
  exact vx_ret (W.widen (k := 1) (n := 6) (by decide) (by decide) (e_rwi hx hb hr hlocks hS rfl hP hD dL_teach_22))
set_option maxHeartbeats 4000000 in
set_option maxRecDepth 100000 in
theorem c_L_teach_t (l : Launch) (hst : l.stackTraces = false) (G : va_G) (T : Nat → ClassId) (sz ao : Nat) (f : Nat → Int64) (w : Nat → Nat) (q : Nat → Nat) (qz : Nat → Nat) (h : Nat → Nat) (qs : Nat → Nat → Nat) (t : Nat → Nat) (gr : Nat → Nat) (u : Nat → Nat) (tr : Nat → Nat) (oc : Nat → Nat) (Sw : Nat → Nat → Int32) (S : Nat → Nat → Int32) (Z : Nat → Nat → Int32) (Sh : Nat → Nat → Int32) (Hs : Nat → Nat → Nat → Int32) (X : Nat → Nat → Int32) (Gg : Nat → Nat → Int32) (U : Nat → Nat → Int32) (K : Nat → Nat → Int32) (O : Nat → Nat → Int32) (x : Int32) (hbx : pBt x 20 = false) : RWx l yL_teach wsL_teach 8 G T sz ([(ao, .inl (T 3, 1, .inr (.inl f)))] ++ oC T (w, q, qz, h, qs, t, gr, u, tr, oc) (Sw, S, Z, Sh, Hs, X, Gg, U, K, O)) [.ref (w 0), .int x, .ref ao] (nI 1) ([(ao, .inl (T 3, 1, .inr (.inl f)))] ++ oC T (w, q, qz, h, qs, t, gr, u, tr, oc) (Sw, S, Z, Sh, Hs, X, Gg, U, K, O)) := by
  refine met_vx (vx_ofWH (cc := cL_teach) (maxL := 4) (ret := (some .int)) (by decide) rfl ?_)
  intro p e s m args below meth c s₁ B hml hv
  obtain ⟨ha, ⟨⟨hsz, hP, hK, hD0, hE0⟩, hC⟩, hN9⟩ := hv
  have hx := B.exec
  have hb := B.bytes
  have hr := B.returns
  have hlocks := B.notSynchronized
  have hts := atoms_spec (ws := wsL_teach) B.pre
  have htab := vx_table (x := yL_teach) B (hts (.codeWith yL_teach cL_teach 4 (some .int) [(0, 9, 12, 13), (0, 9, 15, 15), (0, 9, 18, 17)]) List.mem_cons_self)
  have hown : s.vm.findClass RL = some m.cls := findClass_of_methodNamed B.named
  have cx : CallFix p m c cL_teach 4 s args wsL_teach RL := ⟨hx, hb, hml, hown, hts⟩
  subst hsz
  have hD := hD0.self (sz := s.heap.size)
  generalize hAe : va_A ([(ao, .inl (T 3, 1, .inr (.inl f)))] ++ oC T (w, q, qz, h, qs, t, gr, u, tr, oc) (Sw, S, Z, Sh, Hs, X, Gg, U, K, O)) s.heap.size = A at hD hE0 ⊢
  have hE : gE A s s.heap := hE0
  have hA : ∀ q : Nat, s.heap.size ≤ q → A q := fun q h => by rw [← hAe]; exact Or.inr h
  have hS : va_S A s.heap s.heap [] := va_S.rf
  refine w_entry ha (Nat.le_of_ble_eq_true rfl) (fun ls hl => ?_)
  refine w_q (fun Q0 hQ => ?_)
  have hl : lv_has ls 4 [(0, .ref (w 0)), (1, .int x), (2, .ref ao)] := hl
  refine w_h (fun H locs hHe hLe => ?_)
  have hP : va_P G vwCl ([(ao, .inl (T 3, 1, .inr (.inl f)))] ++ oC T (w, q, qz, h, qs, t, gr, u, tr, oc) (Sw, S, Z, Sh, Hs, X, Gg, U, K, O)) H := by rw [hHe]; exact hP
  have hS : va_S A s.heap H locs := by rw [hHe, hLe]; exact hS
  refine lv_aload_n hx hb dL_teach_0 rfl (lv_at hl 2 rfl) ?_
  refine n_iconst hx hb 0 dL_teach_1 (by decide) ?_
  refine lv_aload_n hx hb dL_teach_2 rfl (lv_at hl 0 rfl) ?_
  refine lv_iload_n hx hb dL_teach_3 rfl (lv_at hl 1 rfl) ?_
  refine k_rxV (As := [.int x]) (rest := [.int (nI 0), .ref ao]) (wc := [(ao, .inl (T 3, 1, .inr (.inl f)))] ++ oC T (w, q, qz, h, qs, t, gr, u, tr, oc) (Sw, S, Z, Sh, Hs, X, Gg, U, K, O)) (wr := []) (w1 := [(ao, .inl (T 3, 1, .inr (.inl f)))] ++ oC T (w, q, qz, h, qs, t, gr, u, tr, oc) (Sw, S, Z, Sh, Hs, X, Gg, U, K, O)) (d := 7) cx (RX.fr (w_X7_teach_t l hst G T H.size w q qz h qs t gr u tr oc Sw S Z Sh Hs X Gg U K O x hbx) (Fr.head [(ao, .inl (T 3, 1, .inr (.inl f)))] (oC T (w, q, qz, h, qs, t, gr, u, tr, oc) (Sw, S, Z, Sh, Hs, X, Gg, U, K, O)) (oC T (w, q, qz, h, qs, t, gr, u, tr, oc) (Sw, S, Z, Sh, Hs, X, Gg, U, K, O)))) (cwV 1 hts gL_teach_X7_teach rfl rfl rfl (by decide +kernel) ⟨Nat.le_of_ble_eq_true rfl, Nat.le_of_ble_eq_true rfl⟩) (kN_full hP hD hS hA hE hK) hC (va_recv hK hP (ci := 7) (q0 := 1) rfl rfl) rfl hl.1 rfl (Nat.le_of_ble_eq_true rfl) dL_teach_4 ⟨Nat.le_of_ble_eq_true rfl, Nat.le_of_ble_eq_true rfl⟩ (fun E9 ce q9 H locs he hP hD hS h1 h2 h3 => ?_) (fun v H locs he => by cases he)
  cases he
  refine vx_catch (own := RL) (name := "java/lang/IndexOutOfBoundsException") (E := "java/lang/IndexOutOfBoundsException") hown [] ⟨0, 9, 12, 13⟩ [⟨0, 9, 15, 15⟩, ⟨0, 9, 18, 17⟩] (htab.trans rfl) (fun _ h9 => by cases h9) (by decide) (by decide) (hts (.classLink RL 13 "java/lang/IndexOutOfBoundsException") (by decide +kernel)) (va_Nw.use rfl (hC.1 "java/lang/IndexOutOfBoundsException" (by decide))) h1 h2 h3 ?_
  refine lv_astore_n (lv' := [(3, .ref q9), (0, .ref (w 0)), (1, .int x), (2, .ref ao)]) hx hb dL_teach_12 rfl hl (by decide) rfl (fun ls hl => ?_)
  refine n_iconst hx hb 1 dL_teach_13 (by decide) ?_
  subst hQ
  exact vx_ret (W.widen (k := 1) (n := 6) (by decide) (by decide) (e_rwi hx hb hr hlocks hS rfl hP hD dL_teach_14))
set_option maxHeartbeats 4000000 in
set_option maxRecDepth 100000 in
theorem c_L_teach_t2 (l : Launch) (hst : l.stackTraces = false) (G : va_G) (T : Nat → ClassId) (sz ao : Nat) (f : Nat → Int64) (w : Nat → Nat) (q : Nat → Nat) (qz : Nat → Nat) (h : Nat → Nat) (qs : Nat → Nat → Nat) (t : Nat → Nat) (gr : Nat → Nat) (u : Nat → Nat) (tr : Nat → Nat) (oc : Nat → Nat) (Sw : Nat → Nat → Int32) (S : Nat → Nat → Int32) (Z : Nat → Nat → Int32) (Sh : Nat → Nat → Int32) (Hs : Nat → Nat → Nat → Int32) (X : Nat → Nat → Int32) (Gg : Nat → Nat → Int32) (U : Nat → Nat → Int32) (K : Nat → Nat → Int32) (O : Nat → Nat → Int32) (n : Nat) (cd : Nat → Nat) (mm : Nat) (hlen : X 0 1 = nI n) (hn60 : n ≤ 60) (hcd : ∀ i : Nat, i < n → X 1 i = nI (cd i)) (hc127 : ∀ i : Nat, i < n → cd i < 127) (hm20 : mm < 20) (hbF : bT cd n = false) : RWx l yL_teach wsL_teach 14 G T sz ([(ao, .inl (T 3, 1, .inr (.inl f)))] ++ oC T (w, q, qz, h, qs, t, gr, u, tr, oc) (Sw, S, Z, Sh, Hs, X, Gg, U, K, O)) [.ref (w 0), .int (nI mm), .ref ao] (nI 2) ([(ao, .inl (T 3, 1, .inr (.inl f)))] ++ oC T (w, q, qz, h, qs, t, gr, u, tr, oc) (Sw, S, Z, Sh, Hs, X, gGr Gg cd n 4 false, rTu U cd n, K, O)) := by
  refine met_vx (vx_ofWH (cc := cL_teach) (maxL := 4) (ret := (some .int)) (by decide) rfl ?_)
  intro p e s m args below meth c s₁ B hml hv
  obtain ⟨ha, ⟨⟨hsz, hP, hK, hD0, hE0⟩, hC⟩, hN9⟩ := hv
  have hx := B.exec
  have hb := B.bytes
  have hr := B.returns
  have hlocks := B.notSynchronized
  have hts := atoms_spec (ws := wsL_teach) B.pre
  have htab := vx_table (x := yL_teach) B (hts (.codeWith yL_teach cL_teach 4 (some .int) [(0, 9, 12, 13), (0, 9, 15, 15), (0, 9, 18, 17)]) List.mem_cons_self)
  have hown : s.vm.findClass RL = some m.cls := findClass_of_methodNamed B.named
  have cx : CallFix p m c cL_teach 4 s args wsL_teach RL := ⟨hx, hb, hml, hown, hts⟩
  subst hsz
  have hD := hD0.self (sz := s.heap.size)
  generalize hAe : va_A ([(ao, .inl (T 3, 1, .inr (.inl f)))] ++ oC T (w, q, qz, h, qs, t, gr, u, tr, oc) (Sw, S, Z, Sh, Hs, X, Gg, U, K, O)) s.heap.size = A at hD hE0 ⊢
  have hE : gE A s s.heap := hE0
  have hA : ∀ q : Nat, s.heap.size ≤ q → A q := fun q h => by rw [← hAe]; exact Or.inr h
  have hS : va_S A s.heap s.heap [] := va_S.rf
  refine w_entry ha (Nat.le_of_ble_eq_true rfl) (fun ls hl => ?_)
  refine w_q (fun Q0 hQ => ?_)
  have hl : lv_has ls 4 [(0, .ref (w 0)), (1, .int (nI mm)), (2, .ref ao)] := hl
  refine w_h (fun H locs hHe hLe => ?_)
  have hP : va_P G vwCl ([(ao, .inl (T 3, 1, .inr (.inl f)))] ++ oC T (w, q, qz, h, qs, t, gr, u, tr, oc) (Sw, S, Z, Sh, Hs, X, Gg, U, K, O)) H := by rw [hHe]; exact hP
  have hS : va_S A s.heap H locs := by rw [hHe, hLe]; exact hS
  refine lv_aload_n hx hb dL_teach_0 rfl (lv_at hl 2 rfl) ?_
  refine n_iconst hx hb 0 dL_teach_1 (by decide) ?_
  refine lv_aload_n hx hb dL_teach_2 rfl (lv_at hl 0 rfl) ?_
  refine lv_iload_n hx hb dL_teach_3 rfl (lv_at hl 1 rfl) ?_
  refine k_rxV (As := [.int (nI mm)]) (rest := [.int (nI 0), .ref ao]) (wc := [(ao, .inl (T 3, 1, .inr (.inl f)))] ++ oC T (w, q, qz, h, qs, t, gr, u, tr, oc) (Sw, S, Z, Sh, Hs, X, Gg, U, K, O)) (wr := []) (w1 := [(ao, .inl (T 3, 1, .inr (.inl f)))] ++ oC T (w, q, qz, h, qs, t, gr, u, tr, oc) (Sw, S, Z, Sh, Hs, X, gGr Gg cd n 4 false, rTu U cd n, K, O)) (d := 13) cx (RX.fr (w_X7_teach_t2 l hst G T H.size w q qz h qs t gr u tr oc Sw S Z Sh Hs X Gg U K O n cd mm hlen hn60 hcd hc127 hm20 hbF) (Fr.head [(ao, .inl (T 3, 1, .inr (.inl f)))] (oC T (w, q, qz, h, qs, t, gr, u, tr, oc) (Sw, S, Z, Sh, Hs, X, Gg, U, K, O)) (oC T (w, q, qz, h, qs, t, gr, u, tr, oc) (Sw, S, Z, Sh, Hs, X, gGr Gg cd n 4 false, rTu U cd n, K, O)))) (cwV 1 hts gL_teach_X7_teach rfl rfl rfl (by decide +kernel) ⟨Nat.le_of_ble_eq_true rfl, Nat.le_of_ble_eq_true rfl⟩) (kN_full hP hD hS hA hE hK) hC (va_recv hK hP (ci := 7) (q0 := 1) rfl rfl) rfl hl.1 rfl (Nat.le_of_ble_eq_true rfl) dL_teach_4 ⟨Nat.le_of_ble_eq_true rfl, Nat.le_of_ble_eq_true rfl⟩ (fun E9 ce q9 H locs he hP hD hS h1 h2 h3 => ?_) (fun v H locs he => by cases he)
  cases he
  refine vx_catch (own := RL) (name := "java/lang/IllegalArgumentException") (E := "java/lang/IllegalArgumentException") hown [⟨0, 9, 12, 13⟩] ⟨0, 9, 15, 15⟩ [⟨0, 9, 18, 17⟩] (htab.trans rfl) (List.forall_mem_cons.mpr ⟨Or.inr ⟨by decide, "java/lang/IndexOutOfBoundsException", hts (.classLink RL 13 "java/lang/IndexOutOfBoundsException") (by decide +kernel), hN9.1⟩, (fun _ h9 => by cases h9)⟩) (by decide) (by decide) (hts (.classLink RL 15 "java/lang/IllegalArgumentException") (by decide +kernel)) (va_Nw.use rfl (hC.1 "java/lang/IllegalArgumentException" (by decide))) h1 h2 h3 ?_
  refine lv_astore_n (lv' := [(3, .ref q9), (0, .ref (w 0)), (1, .int (nI mm)), (2, .ref ao)]) hx hb dL_teach_15 rfl hl (by decide) rfl (fun ls hl => ?_)
  refine n_iconst hx hb 2 dL_teach_16 (by decide) ?_
  subst hQ
  exact vx_ret (W.widen (k := 1) (n := 6) (by decide) (by decide) (e_rwi hx hb hr hlocks hS rfl hP hD dL_teach_17))
set_option maxHeartbeats 4000000 in
set_option maxRecDepth 100000 in
theorem c_L_teach_t3 (l : Launch) (hst : l.stackTraces = false) (G : va_G) (T : Nat → ClassId) (sz ao : Nat) (f : Nat → Int64) (w : Nat → Nat) (q : Nat → Nat) (qz : Nat → Nat) (h : Nat → Nat) (qs : Nat → Nat → Nat) (t : Nat → Nat) (gr : Nat → Nat) (u : Nat → Nat) (tr : Nat → Nat) (oc : Nat → Nat) (Sw : Nat → Nat → Int32) (S : Nat → Nat → Int32) (Z : Nat → Nat → Int32) (Sh : Nat → Nat → Int32) (Hs : Nat → Nat → Nat → Int32) (X : Nat → Nat → Int32) (Gg : Nat → Nat → Int32) (U : Nat → Nat → Int32) (K : Nat → Nat → Int32) (O : Nat → Nat → Int32) (n : Nat) (cd : Nat → Nat) (tl : Nat → Nat) (mm : Nat) (hlen : X 0 1 = nI n) (hn60 : n ≤ 60) (hcd : ∀ i : Nat, i < n → X 1 i = nI (cd i)) (hc127 : ∀ i : Nat, i < n → cd i < 127) (htl : ∀ i : Nat, i < 20 → S 6 i = nI (tl i)) (htl8 : ∀ i : Nat, i < 20 → tl i ≤ 8) (hm20 : mm < 20) (hbT : bT cd n = true) (hra : ¬ pRA S tl (rTu U cd n) (ntT cd n U) mm = nI 0) : RWx l yL_teach wsL_teach 14 G T sz ([(ao, .inl (T 3, 1, .inr (.inl f)))] ++ oC T (w, q, qz, h, qs, t, gr, u, tr, oc) (Sw, S, Z, Sh, Hs, X, Gg, U, K, O)) [.ref (w 0), .int (nI mm), .ref ao] (nI 3) ([(ao, .inl (T 3, 1, .inr (.inl f)))] ++ oC T (w, q, qz, h, qs, t, gr, u, tr, oc) (Sw, S, Z, Sh, Hs, X, gGr Gg cd n 4 false, rTu U cd n, gTO K S tl (ntT cd n U), O)) := by
  refine met_vx (vx_ofWH (cc := cL_teach) (maxL := 4) (ret := (some .int)) (by decide) rfl ?_)
  intro p e s m args below meth c s₁ B hml hv
  obtain ⟨ha, ⟨⟨hsz, hP, hK, hD0, hE0⟩, hC⟩, hN9⟩ := hv
  have hx := B.exec
  have hb := B.bytes
  have hr := B.returns
  have hlocks := B.notSynchronized
  have hts := atoms_spec (ws := wsL_teach) B.pre
  have htab := vx_table (x := yL_teach) B (hts (.codeWith yL_teach cL_teach 4 (some .int) [(0, 9, 12, 13), (0, 9, 15, 15), (0, 9, 18, 17)]) List.mem_cons_self)
  have hown : s.vm.findClass RL = some m.cls := findClass_of_methodNamed B.named
  have cx : CallFix p m c cL_teach 4 s args wsL_teach RL := ⟨hx, hb, hml, hown, hts⟩
  subst hsz
  have hD := hD0.self (sz := s.heap.size)
  generalize hAe : va_A ([(ao, .inl (T 3, 1, .inr (.inl f)))] ++ oC T (w, q, qz, h, qs, t, gr, u, tr, oc) (Sw, S, Z, Sh, Hs, X, Gg, U, K, O)) s.heap.size = A at hD hE0 ⊢
  have hE : gE A s s.heap := hE0
  have hA : ∀ q : Nat, s.heap.size ≤ q → A q := fun q h => by rw [← hAe]; exact Or.inr h
  have hS : va_S A s.heap s.heap [] := va_S.rf
  refine w_entry ha (Nat.le_of_ble_eq_true rfl) (fun ls hl => ?_)
  refine w_q (fun Q0 hQ => ?_)
  have hl : lv_has ls 4 [(0, .ref (w 0)), (1, .int (nI mm)), (2, .ref ao)] := hl
  refine w_h (fun H locs hHe hLe => ?_)
  have hP : va_P G vwCl ([(ao, .inl (T 3, 1, .inr (.inl f)))] ++ oC T (w, q, qz, h, qs, t, gr, u, tr, oc) (Sw, S, Z, Sh, Hs, X, Gg, U, K, O)) H := by rw [hHe]; exact hP
  have hS : va_S A s.heap H locs := by rw [hHe, hLe]; exact hS
  refine lv_aload_n hx hb dL_teach_0 rfl (lv_at hl 2 rfl) ?_
  refine n_iconst hx hb 0 dL_teach_1 (by decide) ?_
  refine lv_aload_n hx hb dL_teach_2 rfl (lv_at hl 0 rfl) ?_
  refine lv_iload_n hx hb dL_teach_3 rfl (lv_at hl 1 rfl) ?_
  refine k_rxV (As := [.int (nI mm)]) (rest := [.int (nI 0), .ref ao]) (wc := [(ao, .inl (T 3, 1, .inr (.inl f)))] ++ oC T (w, q, qz, h, qs, t, gr, u, tr, oc) (Sw, S, Z, Sh, Hs, X, Gg, U, K, O)) (wr := []) (w1 := [(ao, .inl (T 3, 1, .inr (.inl f)))] ++ oC T (w, q, qz, h, qs, t, gr, u, tr, oc) (Sw, S, Z, Sh, Hs, X, gGr Gg cd n 4 false, rTu U cd n, gTO K S tl (ntT cd n U), O)) (d := 13) cx (RX.fr (w_X7_teach_t3 l hst G T H.size w q qz h qs t gr u tr oc Sw S Z Sh Hs X Gg U K O n cd tl mm hlen hn60 hcd hc127 htl htl8 hm20 hbT hra) (Fr.head [(ao, .inl (T 3, 1, .inr (.inl f)))] (oC T (w, q, qz, h, qs, t, gr, u, tr, oc) (Sw, S, Z, Sh, Hs, X, Gg, U, K, O)) (oC T (w, q, qz, h, qs, t, gr, u, tr, oc) (Sw, S, Z, Sh, Hs, X, gGr Gg cd n 4 false, rTu U cd n, gTO K S tl (ntT cd n U), O)))) (cwV 1 hts gL_teach_X7_teach rfl rfl rfl (by decide +kernel) ⟨Nat.le_of_ble_eq_true rfl, Nat.le_of_ble_eq_true rfl⟩) (kN_full hP hD hS hA hE hK) hC (va_recv hK hP (ci := 7) (q0 := 1) rfl rfl) rfl hl.1 rfl (Nat.le_of_ble_eq_true rfl) dL_teach_4 ⟨Nat.le_of_ble_eq_true rfl, Nat.le_of_ble_eq_true rfl⟩ (fun E9 ce q9 H locs he hP hD hS h1 h2 h3 => ?_) (fun v H locs he => by cases he)
  cases he
  refine vx_catch (own := RL) (name := "java/lang/IllegalStateException") (E := "java/lang/IllegalStateException") hown [⟨0, 9, 12, 13⟩, ⟨0, 9, 15, 15⟩] ⟨0, 9, 18, 17⟩ [] (htab.trans rfl) (List.forall_mem_cons.mpr ⟨Or.inr ⟨by decide, "java/lang/IndexOutOfBoundsException", hts (.classLink RL 13 "java/lang/IndexOutOfBoundsException") (by decide +kernel), hN9.2.1⟩, (List.forall_mem_cons.mpr ⟨Or.inr ⟨by decide, "java/lang/IllegalArgumentException", hts (.classLink RL 15 "java/lang/IllegalArgumentException") (by decide +kernel), hN9.2.2⟩, (fun _ h9 => by cases h9)⟩)⟩) (by decide) (by decide) (hts (.classLink RL 17 "java/lang/IllegalStateException") (by decide +kernel)) (va_Nw.use rfl (hC.1 "java/lang/IllegalStateException" (by decide))) h1 h2 h3 ?_
  refine lv_astore_n (lv' := [(3, .ref q9), (0, .ref (w 0)), (1, .int (nI mm)), (2, .ref ao)]) hx hb dL_teach_18 rfl hl (by decide) rfl (fun ls hl => ?_)
  refine n_iconst hx hb 3 dL_teach_19 (by decide) ?_
  subst hQ
  exact vx_ret (W.widen (k := 1) (n := 6) (by decide) (by decide) (e_rwi hx hb hr hlocks hS rfl hP hD dL_teach_20))
