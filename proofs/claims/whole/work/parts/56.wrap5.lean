/-! the law's wrappers, play (printed by wip/whole/swrap.py DIR play) -/
set_option maxHeartbeats 4000000 in
set_option maxRecDepth 100000 in
theorem c_L_play (l : Launch) (hst : l.stackTraces = false) (G : va_G) (T : Nat → ClassId) (sz ao : Nat) (f : Nat → Int64) (w : Nat → Nat) (q : Nat → Nat) (qz : Nat → Nat) (h : Nat → Nat) (qs : Nat → Nat → Nat) (t : Nat → Nat) (gr : Nat → Nat) (u : Nat → Nat) (tr : Nat → Nat) (oc : Nat → Nat) (Sw : Nat → Nat → Int32) (S : Nat → Nat → Int32) (Z : Nat → Nat → Int32) (Sh : Nat → Nat → Int32) (Hs : Nat → Nat → Nat → Int32) (X : Nat → Nat → Int32) (Gg : Nat → Nat → Int32) (U : Nat → Nat → Int32) (K : Nat → Nat → Int32) (O : Nat → Nat → Int32) (n : Nat) (cd : Nat → Nat) (o : Nat) (nh : Nat) (hlen : X 0 1 = nI n) (hn60 : n ≤ 60) (hcd : ∀ i : Nat, i < n → X 1 i = nI (cd i)) (hc127 : ∀ i : Nat, i < n → cd i < 127) (ho : Sh 0 1 = nI o) (hnh : Sh 0 2 = nI nh) (ho6 : o < 6) (hn6 : nh ≤ 6) (hev : n ≤ gEr cd n 1 true) (hmay : gMay (gS cd n 1 true (gEn cd n 1 true)).1 (gS cd n 1 true (gEn cd n 1 true)).2 = true) (hokS : ∀ k i : Nat, k ≤ n → i < 20 → (pl cd n ((S, O, U, K), nI 0, nI 0, 0) k).1.1 6 i = nI (tlF (pl cd n ((S, O, U, K), nI 0, nI 0, 0) k).1.1 i)) (htl8s : ∀ k i : Nat, k ≤ n → i < 20 → tlF (pl cd n ((S, O, U, K), nI 0, nI 0, 0) k).1.1 i ≤ 8) (hpk : ∀ k : Nat, k ≤ n → (pl cd n ((S, O, U, K), nI 0, nI 0, 0) k).2.1 = 0 → (k = n ∨ pAt cd n k = 44) → pOK cd n (pl cd n ((S, O, U, K), nI 0, nI 0, 0) k).2.2.2 k) (haas : ∀ k : Nat, k ≤ n → (pl cd n ((S, O, U, K), nI 0, nI 0, 0) k).2.1 = 0 → (k = n ∨ pAt cd n k = 44) → (pl cd n ((S, O, U, K), nI 0, nI 0, 0) k).2.2.2 ≤ 60) : RWx l yL_play wsL_play 15 G T sz ([(ao, .inl (T 3, 1, .inr (.inl f)))] ++ oC T (w, q, qz, h, qs, t, gr, u, tr, oc) (Sw, S, Z, Sh, Hs, X, Gg, U, K, O)) [.ref (w 0), .ref ao] (nI 0) ([(ao, .inl (T 3, 1, .inr (.inl (vp_updL f 0 ((pl cd n ((S, O, U, K), nI 0, nI 0, 0) (n + 1)).2.2.1).toInt64))))] ++ oC T (w, q, qz, h, qs, t, gr, u, tr, oc) (Sw, plE (pl cd n ((S, O, U, K), nI 0, nI 0, 0) (n + 1)), Z, sc (sc Sh 1 (nI (hPo o nh))) 2 (nI (hPn nh)), updS Hs (hPi o nh) S, sc X 1 (nI 0), gGr Gg cd n 1 true, (pl cd n ((S, O, U, K), nI 0, nI 0, 0) (n + 1)).1.2.2.1, (pl cd n ((S, O, U, K), nI 0, nI 0, 0) (n + 1)).1.2.2.2, (pl cd n ((S, O, U, K), nI 0, nI 0, 0) (n + 1)).1.2.1)) := by
  refine met_vx (vx_ofWH (cc := cL_play) (maxL := 3) (ret := (some .int)) (by decide) rfl ?_)
  intro p e s m args below meth c s₁ B hml hv
  obtain ⟨ha, ⟨⟨hsz, hP, hK, hD0, hE0⟩, hC⟩, hN9⟩ := hv
  have hx := B.exec
  have hb := B.bytes
  have hr := B.returns
  have hlocks := B.notSynchronized
  have hts := atoms_spec (ws := wsL_play) B.pre
  have htab := vx_table (x := yL_play) B (hts (.codeWith yL_play cL_play 3 (some .int) [(0, 8, 11, 15)]) List.mem_cons_self)
  have hown : s.vm.findClass RL = some m.cls := findClass_of_methodNamed B.named
  have cx : CallFix p m c cL_play 3 s args wsL_play RL := ⟨hx, hb, hml, hown, hts⟩
  subst hsz
  have hD := hD0.self (sz := s.heap.size)
  generalize hAe : va_A ([(ao, .inl (T 3, 1, .inr (.inl f)))] ++ oC T (w, q, qz, h, qs, t, gr, u, tr, oc) (Sw, S, Z, Sh, Hs, X, Gg, U, K, O)) s.heap.size = A at hD hE0 ⊢
  have hE : gE A s s.heap := hE0
  have hA : ∀ q : Nat, s.heap.size ≤ q → A q := fun q h => by rw [← hAe]; exact Or.inr h
  have hS : va_S A s.heap s.heap [] := va_S.rf
  refine w_entry ha (Nat.le_of_ble_eq_true rfl) (fun ls hl => ?_)
  refine w_q (fun Q0 hQ => ?_)
  have hl : lv_has ls 3 [(0, .ref (w 0)), (1, .ref ao)] := hl
  refine w_h (fun H locs hHe hLe => ?_)
  have hP : va_P G vwCl ([(ao, .inl (T 3, 1, .inr (.inl f)))] ++ oC T (w, q, qz, h, qs, t, gr, u, tr, oc) (Sw, S, Z, Sh, Hs, X, Gg, U, K, O)) H := by rw [hHe]; exact hP
  have hS : va_S A s.heap H locs := by rw [hHe, hLe]; exact hS
  refine lv_aload_n hx hb dL_play_0 rfl (lv_at hl 1 rfl) ?_
  refine n_iconst hx hb 0 dL_play_1 (by decide) ?_
  refine lv_aload_n hx hb dL_play_2 rfl (lv_at hl 0 rfl) ?_
  refine k_rwV (As := []) (rest := [.int (nI 0), .ref ao]) (wc := [(ao, .inl (T 3, 1, .inr (.inl f)))] ++ oC T (w, q, qz, h, qs, t, gr, u, tr, oc) (Sw, S, Z, Sh, Hs, X, Gg, U, K, O)) (wr := []) (w1 := [(ao, .inl (T 3, 1, .inr (.inl f)))] ++ oC T (w, q, qz, h, qs, t, gr, u, tr, oc) (Sw, plE (pl cd n ((S, O, U, K), nI 0, nI 0, 0) (n + 1)), Z, sc (sc Sh 1 (nI (hPo o nh))) 2 (nI (hPn nh)), updS Hs (hPi o nh) S, sc X 1 (nI 0), gGr Gg cd n 1 true, (pl cd n ((S, O, U, K), nI 0, nI 0, 0) (n + 1)).1.2.2.1, (pl cd n ((S, O, U, K), nI 0, nI 0, 0) (n + 1)).1.2.2.2, (pl cd n ((S, O, U, K), nI 0, nI 0, 0) (n + 1)).1.2.1)) (d := 14) (mc := 0) (ms := 0) (v := (pl cd n ((S, O, U, K), nI 0, nI 0, 0) (n + 1)).2.2.1) cx (RWi.fr (c_X7_play l G T H.size w q qz h qs t gr u tr oc Sw S Z Sh Hs X Gg U K O n cd o nh hlen hn60 hcd hc127 ho hnh ho6 hn6 hev hmay hokS htl8s hpk haas) (Fr.head [(ao, .inl (T 3, 1, .inr (.inl f)))] (oC T (w, q, qz, h, qs, t, gr, u, tr, oc) (Sw, S, Z, Sh, Hs, X, Gg, U, K, O)) (oC T (w, q, qz, h, qs, t, gr, u, tr, oc) (Sw, plE (pl cd n ((S, O, U, K), nI 0, nI 0, 0) (n + 1)), Z, sc (sc Sh 1 (nI (hPo o nh))) 2 (nI (hPn nh)), updS Hs (hPi o nh) S, sc X 1 (nI 0), gGr Gg cd n 1 true, (pl cd n ((S, O, U, K), nI 0, nI 0, 0) (n + 1)).1.2.2.1, (pl cd n ((S, O, U, K), nI 0, nI 0, 0) (n + 1)).1.2.2.2, (pl cd n ((S, O, U, K), nI 0, nI 0, 0) (n + 1)).1.2.1)))) (cwV 0 hts gL_play_X7_play rfl rfl rfl (by decide +kernel) ⟨Nat.le_of_ble_eq_true rfl, Nat.le_of_ble_eq_true rfl⟩) (kN_full hP hD hS hA hE hK) (va_recv hK hP (ci := 7) (q0 := 1) rfl rfl) rfl hl.1 rfl (Nat.le_of_ble_eq_true rfl) dL_play_3 ⟨Nat.le_of_ble_eq_true rfl, Nat.le_of_ble_eq_true rfl⟩ (fun H locs hP hD hS hz => ?_)
  have hP : va_P G vwCl ([(ao, .inl (T 3, 1, .inr (.inl f)))] ++ oC T (w, q, qz, h, qs, t, gr, u, tr, oc) (Sw, plE (pl cd n ((S, O, U, K), nI 0, nI 0, 0) (n + 1)), Z, sc (sc Sh 1 (nI (hPo o nh))) 2 (nI (hPn nh)), updS Hs (hPi o nh) S, sc X 1 (nI 0), gGr Gg cd n 1 true, (pl cd n ((S, O, U, K), nI 0, nI 0, 0) (n + 1)).1.2.2.1, (pl cd n ((S, O, U, K), nI 0, nI 0, 0) (n + 1)).1.2.2.2, (pl cd n ((S, O, U, K), nI 0, nI 0, 0) (n + 1)).1.2.1)) H := hP
  have hD : va_D A ([(ao, .inl (T 3, 1, .inr (.inl f)))] ++ oC T (w, q, qz, h, qs, t, gr, u, tr, oc) (Sw, plE (pl cd n ((S, O, U, K), nI 0, nI 0, 0) (n + 1)), Z, sc (sc Sh 1 (nI (hPo o nh))) 2 (nI (hPn nh)), updS Hs (hPi o nh) S, sc X 1 (nI 0), gGr Gg cd n 1 true, (pl cd n ((S, O, U, K), nI 0, nI 0, 0) (n + 1)).1.2.2.1, (pl cd n ((S, O, U, K), nI 0, nI 0, 0) (n + 1)).1.2.2.2, (pl cd n ((S, O, U, K), nI 0, nI 0, 0) (n + 1)).1.2.1)) := hD
  refine lv_i2l (v := ((pl cd n ((S, O, U, K), nI 0, nI 0, 0) (n + 1)).2.2.1).toInt64) hx hb dL_play_6 rfl ?_
  refine va_last hx hb hK hP hD hS 0 3 rfl rfl (vp_in_nI (show 0 < 1 by decide) (by decide)) dL_play_7 (fun H locs hP hD hS => ?_)
  have hP : va_P G vwCl ([(ao, .inl (T 3, 1, .inr (.inl (vp_updL f 0 ((pl cd n ((S, O, U, K), nI 0, nI 0, 0) (n + 1)).2.2.1).toInt64))))] ++ oC T (w, q, qz, h, qs, t, gr, u, tr, oc) (Sw, plE (pl cd n ((S, O, U, K), nI 0, nI 0, 0) (n + 1)), Z, sc (sc Sh 1 (nI (hPo o nh))) 2 (nI (hPn nh)), updS Hs (hPi o nh) S, sc X 1 (nI 0), gGr Gg cd n 1 true, (pl cd n ((S, O, U, K), nI 0, nI 0, 0) (n + 1)).1.2.2.1, (pl cd n ((S, O, U, K), nI 0, nI 0, 0) (n + 1)).1.2.2.2, (pl cd n ((S, O, U, K), nI 0, nI 0, 0) (n + 1)).1.2.1)) H := hP
  have hD : va_D A ([(ao, .inl (T 3, 1, .inr (.inl (vp_updL f 0 ((pl cd n ((S, O, U, K), nI 0, nI 0, 0) (n + 1)).2.2.1).toInt64))))] ++ oC T (w, q, qz, h, qs, t, gr, u, tr, oc) (Sw, plE (pl cd n ((S, O, U, K), nI 0, nI 0, 0) (n + 1)), Z, sc (sc Sh 1 (nI (hPo o nh))) 2 (nI (hPn nh)), updS Hs (hPi o nh) S, sc X 1 (nI 0), gGr Gg cd n 1 true, (pl cd n ((S, O, U, K), nI 0, nI 0, 0) (n + 1)).1.2.2.1, (pl cd n ((S, O, U, K), nI 0, nI 0, 0) (n + 1)).1.2.2.2, (pl cd n ((S, O, U, K), nI 0, nI 0, 0) (n + 1)).1.2.1)) := hD
  refine lv_goto (tgt := 14) hx hb dL_play_8 (by decide) ?_
  refine n_iconst hx hb 0 dL_play_14 (by decide) ?_
  subst hQ
  exact vx_ret (W.widen (k := 1) (n := 6) (by decide) (by decide) (e_rwi hx hb hr hlocks hS rfl hP hD dL_play_15))
set_option maxHeartbeats 4000000 in
set_option maxRecDepth 100000 in
theorem c_L_play_t (l : Launch) (hst : l.stackTraces = false) (G : va_G) (T : Nat → ClassId) (sz ao : Nat) (f : Nat → Int64) (w : Nat → Nat) (q : Nat → Nat) (qz : Nat → Nat) (h : Nat → Nat) (qs : Nat → Nat → Nat) (t : Nat → Nat) (gr : Nat → Nat) (u : Nat → Nat) (tr : Nat → Nat) (oc : Nat → Nat) (Sw : Nat → Nat → Int32) (S : Nat → Nat → Int32) (Z : Nat → Nat → Int32) (Sh : Nat → Nat → Int32) (Hs : Nat → Nat → Nat → Int32) (X : Nat → Nat → Int32) (Gg : Nat → Nat → Int32) (U : Nat → Nat → Int32) (K : Nat → Nat → Int32) (O : Nat → Nat → Int32) (n : Nat) (cd : Nat → Nat) (hlen : X 0 1 = nI n) (hn60 : n ≤ 60) (hcd : ∀ i : Nat, i < n → X 1 i = nI (cd i)) (hc127 : ∀ i : Nat, i < n → cd i < 127) (hno : ¬ (n ≤ gEr cd n 1 true ∧ gMay (gS cd n 1 true (gEn cd n 1 true)).1 (gS cd n 1 true (gEn cd n 1 true)).2 = true)) : RWx l yL_play wsL_play 15 G T sz ([(ao, .inl (T 3, 1, .inr (.inl f)))] ++ oC T (w, q, qz, h, qs, t, gr, u, tr, oc) (Sw, S, Z, Sh, Hs, X, Gg, U, K, O)) [.ref (w 0), .ref ao] (nI 1) ([(ao, .inl (T 3, 1, .inr (.inl f)))] ++ oC T (w, q, qz, h, qs, t, gr, u, tr, oc) (Sw, S, Z, Sh, Hs, X, gGr Gg cd n 1 true, U, K, O)) := by
  refine met_vx (vx_ofWH (cc := cL_play) (maxL := 3) (ret := (some .int)) (by decide) rfl ?_)
  intro p e s m args below meth c s₁ B hml hv
  obtain ⟨ha, ⟨⟨hsz, hP, hK, hD0, hE0⟩, hC⟩, hN9⟩ := hv
  have hx := B.exec
  have hb := B.bytes
  have hr := B.returns
  have hlocks := B.notSynchronized
  have hts := atoms_spec (ws := wsL_play) B.pre
  have htab := vx_table (x := yL_play) B (hts (.codeWith yL_play cL_play 3 (some .int) [(0, 8, 11, 15)]) List.mem_cons_self)
  have hown : s.vm.findClass RL = some m.cls := findClass_of_methodNamed B.named
  have cx : CallFix p m c cL_play 3 s args wsL_play RL := ⟨hx, hb, hml, hown, hts⟩
  subst hsz
  have hD := hD0.self (sz := s.heap.size)
  generalize hAe : va_A ([(ao, .inl (T 3, 1, .inr (.inl f)))] ++ oC T (w, q, qz, h, qs, t, gr, u, tr, oc) (Sw, S, Z, Sh, Hs, X, Gg, U, K, O)) s.heap.size = A at hD hE0 ⊢
  have hE : gE A s s.heap := hE0
  have hA : ∀ q : Nat, s.heap.size ≤ q → A q := fun q h => by rw [← hAe]; exact Or.inr h
  have hS : va_S A s.heap s.heap [] := va_S.rf
  refine w_entry ha (Nat.le_of_ble_eq_true rfl) (fun ls hl => ?_)
  refine w_q (fun Q0 hQ => ?_)
  have hl : lv_has ls 3 [(0, .ref (w 0)), (1, .ref ao)] := hl
  refine w_h (fun H locs hHe hLe => ?_)
  have hP : va_P G vwCl ([(ao, .inl (T 3, 1, .inr (.inl f)))] ++ oC T (w, q, qz, h, qs, t, gr, u, tr, oc) (Sw, S, Z, Sh, Hs, X, Gg, U, K, O)) H := by rw [hHe]; exact hP
  have hS : va_S A s.heap H locs := by rw [hHe, hLe]; exact hS
  refine lv_aload_n hx hb dL_play_0 rfl (lv_at hl 1 rfl) ?_
  refine n_iconst hx hb 0 dL_play_1 (by decide) ?_
  refine lv_aload_n hx hb dL_play_2 rfl (lv_at hl 0 rfl) ?_
  refine k_rxV (As := []) (rest := [.int (nI 0), .ref ao]) (wc := [(ao, .inl (T 3, 1, .inr (.inl f)))] ++ oC T (w, q, qz, h, qs, t, gr, u, tr, oc) (Sw, S, Z, Sh, Hs, X, Gg, U, K, O)) (wr := []) (w1 := [(ao, .inl (T 3, 1, .inr (.inl f)))] ++ oC T (w, q, qz, h, qs, t, gr, u, tr, oc) (Sw, S, Z, Sh, Hs, X, gGr Gg cd n 1 true, U, K, O)) (d := 14) cx (RX.fr (c_X7_play_t l hst G T H.size w q qz h qs t gr u tr oc Sw S Z Sh Hs X Gg U K O n cd hlen hn60 hcd hc127 hno) (Fr.head [(ao, .inl (T 3, 1, .inr (.inl f)))] (oC T (w, q, qz, h, qs, t, gr, u, tr, oc) (Sw, S, Z, Sh, Hs, X, Gg, U, K, O)) (oC T (w, q, qz, h, qs, t, gr, u, tr, oc) (Sw, S, Z, Sh, Hs, X, gGr Gg cd n 1 true, U, K, O)))) (cwV 0 hts gL_play_X7_play rfl rfl rfl (by decide +kernel) ⟨Nat.le_of_ble_eq_true rfl, Nat.le_of_ble_eq_true rfl⟩) (kN_full hP hD hS hA hE hK) hC (va_recv hK hP (ci := 7) (q0 := 1) rfl rfl) rfl hl.1 rfl (Nat.le_of_ble_eq_true rfl) dL_play_3 ⟨Nat.le_of_ble_eq_true rfl, Nat.le_of_ble_eq_true rfl⟩ (fun E9 ce q9 H locs he hP hD hS h1 h2 h3 => ?_) (fun v H locs he => by cases he)
  cases he
  refine vx_catch (own := RL) (name := "java/lang/IllegalArgumentException") (E := "java/lang/IllegalArgumentException") hown [] ⟨0, 8, 11, 15⟩ [] (htab.trans rfl) (fun _ h9 => by cases h9) (by decide) (by decide) (hts (.classLink RL 15 "java/lang/IllegalArgumentException") (by decide +kernel)) (va_Nw.use rfl (hC.1 "java/lang/IllegalArgumentException" (by decide))) h1 h2 h3 ?_
  refine lv_astore_n (lv' := [(2, .ref q9), (0, .ref (w 0)), (1, .ref ao)]) hx hb dL_play_11 rfl hl (by decide) rfl (fun ls hl => ?_)
  refine n_iconst hx hb 1 dL_play_12 (by decide) ?_
  subst hQ
  exact vx_ret (W.widen (k := 1) (n := 6) (by decide) (by decide) (e_rwi hx hb hr hlocks hS rfl hP hD dL_play_13))
