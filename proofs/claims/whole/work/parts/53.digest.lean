/-! WhistleTunes.digest over all that it has (printed by wip/whole/s57.py) -/
set_option maxHeartbeats 20000000 in
set_option maxRecDepth 100000 in
theorem c_X7_digest (l : Launch) (G : va_G) (T : Nat → ClassId) (sz : Nat) (w : Nat → Nat) (q : Nat → Nat) (qz : Nat → Nat) (h : Nat → Nat) (qs : Nat → Nat → Nat) (t : Nat → Nat) (gr : Nat → Nat) (u : Nat → Nat) (tr : Nat → Nat) (oc : Nat → Nat) (Sw : Nat → Nat → Int32) (S : Nat → Nat → Int32) (Z : Nat → Nat → Int32) (Sh : Nat → Nat → Int32) (Hs : Nat → Nat → Nat → Int32) (X : Nat → Nat → Int32) (Gg : Nat → Nat → Int32) (U : Nat → Nat → Int32) (K : Nat → Nat → Int32) (O : Nat → Nat → Int32) (n : Nat) (cd : Nat → Nat) (tl : Nat → Nat) (o : Nat) (nh : Nat) (hlen : X 0 1 = nI n) (hn60 : n ≤ 60) (hcd : ∀ i : Nat, i < n → X 1 i = nI (cd i)) (hc127 : ∀ i : Nat, i < n → cd i < 127) (htl : ∀ i : Nat, i < 20 → S 6 i = nI (tl i)) (htl8 : ∀ i : Nat, i < 20 → tl i ≤ 8) (ho : Sh 0 1 = nI o) (hnh : Sh 0 2 = nI nh) (ho6 : o < 6) (hn6 : nh ≤ 6) (hbs : bsOk (cSh S)) : RWl l yX7_digest wsX7_digest 7 0 0 G T sz (oC T (w, q, qz, h, qs, t, gr, u, tr, oc) (Sw, S, Z, Sh, Hs, X, Gg, U, K, O)) [.ref (w 0)] (cDg S tl nh cd n) (oC T (w, q, qz, h, qs, t, gr, u, tr, oc) (Sw, S, Z, Sh, Hs, X, Gg, U, gTr K S tl, cO3 (cO2 O S 20) S 6)) := by
  refine Met.ofW (cc := cX7_digest) (maxL := 4) (ret := (some .long)) (by decide) rfl ?_
  intro p e s m args below meth c s₁ B hml hv
  obtain ⟨ha, hsz, hP, hK, hD0, hE0⟩ := hv
  have hx := B.exec
  have hb := B.bytes
  have hr := B.returns
  have hlocks := B.notSynchronized
  have hts := atoms_spec (ws := wsX7_digest) B.pre
  have hown : s.vm.findClass RX7 = some m.cls := findClass_of_methodNamed B.named
  have cx : CallFix p m c cX7_digest 4 s args wsX7_digest RX7 := ⟨hx, hb, hml, hown, hts⟩
  subst hsz
  have hD := hD0.self (sz := s.heap.size)
  generalize hAe : va_A (oC T (w, q, qz, h, qs, t, gr, u, tr, oc) (Sw, S, Z, Sh, Hs, X, Gg, U, K, O)) s.heap.size = A at hD hE0 ⊢
  have hE : gE A s s.heap := hE0
  have hA : ∀ q : Nat, s.heap.size ≤ q → A q := fun q h => by rw [← hAe]; exact Or.inr h
  have hS : va_S A s.heap s.heap [] := va_S.rf
  refine w_entry ha (Nat.le_of_ble_eq_true rfl) (fun ls hl => ?_)
  refine w_q (fun Q0 hQ => ?_)
  have hl : lv_has ls 4 [(0, .ref (w 0))] := hl
  have hP : va_P G vwCl (oC T (w, q, qz, h, qs, t, gr, u, tr, oc) (Sw, S, Z, Sh, Hs, X, Gg, U, K, O)) s.heap := hP
  have hD : va_D A (oC T (w, q, qz, h, qs, t, gr, u, tr, oc) (Sw, S, Z, Sh, Hs, X, Gg, U, K, O)) := hD
  skip
  refine w_h (fun H locs hHe hLe => ?_)
  have hP : va_P G vwCl (oC T (w, q, qz, h, qs, t, gr, u, tr, oc) (Sw, S, Z, Sh, Hs, X, Gg, U, K, O)) H := by rw [hHe]; exact hP
  have hS : va_S A s.heap H locs := by rw [hHe, hLe]; exact hS
  refine lv_ldc2 (v := 3911) hx hb hown (hts (.constantLong RX7 305 (3911)) (by decide +kernel)) dX7_digest_0 ?_
  refine lv_lstore_n (lv' := [(1, .long (3911 : Int64)), (0, .ref (w 0))]) hx hb dX7_digest_3 rfl hl (by decide) rfl (fun ls hl => ?_)
  refine n_iconst hx hb 0 dX7_digest_4 (by decide) ?_
  refine lv_istore_n (lv' := [(3, .int (nI 0)), (1, .long (3911 : Int64)), (0, .ref (w 0))]) hx hb dX7_digest_5 rfl hl (by decide) rfl (fun ls hl => ?_)
  refine lv_iload_n hx hb dX7_digest_6 rfl (lv_at hl 0 rfl) ?_
  refine lv_bipush (v := nI 14) hx hb dX7_digest_7 (by decide) ?_
  refine n_icmp_ge (a := 0) (b := 14) (tgt := 31) hx hb (by decide) (by decide) dX7_digest_9 (by decide) (fun h9 => absurd h9 (by decide)) (fun c_1 => ?_)
  refine lv_ldc2 (v := 31) hx hb hown (hts (.constantLong RX7 307 (31)) (by decide +kernel)) dX7_digest_12 ?_
  refine lv_lload_n hx hb dX7_digest_15 rfl (lv_at hl 1 rfl) ?_
  refine lv_lmul hx hb dX7_digest_16 ?_
  refine lv_aload_n hx hb dX7_digest_17 rfl (lv_at hl 2 rfl) ?_
  refine lv_iload_n hx hb dX7_digest_18 rfl (lv_at hl 0 rfl) ?_
  refine k_roV (As := [.int (nI 0)]) (rest := [.long ((31 : Int64) * (3911 : Int64))]) (wc := oX7 w q qz h t gr u tr oc Sw ++ oX3 T q S ++ oX1 T h qs Sh Hs) (d := 2) (v := pCt S nh 0) cx (c_X7_count l G T A w q qz h t gr u tr oc Sw S Sh qs Hs nh 0 hnh (by omega) (by first | assumption | rfl | omega)) (cwV 1 hts gX7_digest_X7_count rfl rfl rfl (by decide +kernel) ⟨Nat.le_of_ble_eq_true rfl, Nat.le_of_ble_eq_true rfl⟩) (hP.sub (ws' := oX7 w q qz h t gr u tr oc Sw ++ oX3 T q S ++ oX1 T h qs Sh Hs) [0, 1, 2, 3, 4, 5, 6, 7, 8, 9, 10, 11, 12, 13, 27, 28, 29, 30, 31, 32, 33, 34, 35, 36, 37, 38, 39, 40, 41, 42, 43, 44, 45, 46, 47, 48, 49, 50, 51, 52, 53, 54, 55, 56, 57, 58, 59, 60, 61, 62, 63, 64, 65, 66, 67, 68, 69, 70, 71, 72, 73, 74, 75, 76, 77, 78, 79, 80, 81, 82, 83, 84, 85, 86, 87, 88, 89, 90, 91, 92, 93, 94, 95, 96, 97, 98, 99, 100, 101, 102, 103, 104, 105, 106] rfl) hK (hE.kept hS.2.1) (va_recv hK hP (ci := 7) (q0 := 0) rfl rfl) rfl hl.1 rfl (Nat.le_of_ble_eq_true rfl) dX7_digest_19 ⟨Nat.le_of_ble_eq_true rfl, Nat.le_of_ble_eq_true rfl⟩ ?_
  refine lv_i2l (v := (pCt S nh 0).toInt64) hx hb dX7_digest_22 rfl ?_
  refine lv_ladd hx hb dX7_digest_23 ?_
  refine lv_lstore_n (lv' := [(1, .long (((31 : Int64) * (3911 : Int64)) + ((pCt S nh 0).toInt64))), (3, .int (nI 0)), (0, .ref (w 0))]) hx hb dX7_digest_24 rfl hl (by decide) rfl (fun ls hl => ?_)
  refine lv_iinc (v := nI 1) (lv' := [(3, .int (nI 1)), (1, .long (((31 : Int64) * (3911 : Int64)) + ((pCt S nh 0).toInt64))), (0, .ref (w 0))]) hx hb dX7_digest_25 hl (k := 1) rfl (n_inc 0 1 rfl) (by decide) rfl (fun ls hl => ?_)
  refine lv_goto (tgt := 6) hx hb dX7_digest_28 (by decide) ?_
  refine lv_iload_n hx hb dX7_digest_6 rfl (lv_at hl 0 rfl) ?_
  refine lv_bipush (v := nI 14) hx hb dX7_digest_7 (by decide) ?_
  refine n_icmp_ge (a := 1) (b := 14) (tgt := 31) hx hb (by decide) (by decide) dX7_digest_9 (by decide) (fun h9 => absurd h9 (by decide)) (fun c_2 => ?_)
  refine lv_ldc2 (v := 31) hx hb hown (hts (.constantLong RX7 307 (31)) (by decide +kernel)) dX7_digest_12 ?_
  refine lv_lload_n hx hb dX7_digest_15 rfl (lv_at hl 1 rfl) ?_
  refine lv_lmul hx hb dX7_digest_16 ?_
  refine lv_aload_n hx hb dX7_digest_17 rfl (lv_at hl 2 rfl) ?_
  refine lv_iload_n hx hb dX7_digest_18 rfl (lv_at hl 0 rfl) ?_
  refine k_roV (As := [.int (nI 1)]) (rest := [.long ((31 : Int64) * (((31 : Int64) * (3911 : Int64)) + ((pCt S nh 0).toInt64)))]) (wc := oX7 w q qz h t gr u tr oc Sw ++ oX3 T q S ++ oX1 T h qs Sh Hs) (d := 2) (v := pCt S nh 1) cx (c_X7_count l G T A w q qz h t gr u tr oc Sw S Sh qs Hs nh 1 hnh (by omega) (by first | assumption | rfl | omega)) (cwV 1 hts gX7_digest_X7_count rfl rfl rfl (by decide +kernel) ⟨Nat.le_of_ble_eq_true rfl, Nat.le_of_ble_eq_true rfl⟩) (hP.sub (ws' := oX7 w q qz h t gr u tr oc Sw ++ oX3 T q S ++ oX1 T h qs Sh Hs) [0, 1, 2, 3, 4, 5, 6, 7, 8, 9, 10, 11, 12, 13, 27, 28, 29, 30, 31, 32, 33, 34, 35, 36, 37, 38, 39, 40, 41, 42, 43, 44, 45, 46, 47, 48, 49, 50, 51, 52, 53, 54, 55, 56, 57, 58, 59, 60, 61, 62, 63, 64, 65, 66, 67, 68, 69, 70, 71, 72, 73, 74, 75, 76, 77, 78, 79, 80, 81, 82, 83, 84, 85, 86, 87, 88, 89, 90, 91, 92, 93, 94, 95, 96, 97, 98, 99, 100, 101, 102, 103, 104, 105, 106] rfl) hK (hE.kept hS.2.1) (va_recv hK hP (ci := 7) (q0 := 0) rfl rfl) rfl hl.1 rfl (Nat.le_of_ble_eq_true rfl) dX7_digest_19 ⟨Nat.le_of_ble_eq_true rfl, Nat.le_of_ble_eq_true rfl⟩ ?_
  refine lv_i2l (v := (pCt S nh 1).toInt64) hx hb dX7_digest_22 rfl ?_
  refine lv_ladd hx hb dX7_digest_23 ?_
  refine lv_lstore_n (lv' := [(1, .long (((31 : Int64) * (((31 : Int64) * (3911 : Int64)) + ((pCt S nh 0).toInt64))) + ((pCt S nh 1).toInt64))), (3, .int (nI 1)), (0, .ref (w 0))]) hx hb dX7_digest_24 rfl hl (by decide) rfl (fun ls hl => ?_)
  refine lv_iinc (v := nI 2) (lv' := [(3, .int (nI 2)), (1, .long (((31 : Int64) * (((31 : Int64) * (3911 : Int64)) + ((pCt S nh 0).toInt64))) + ((pCt S nh 1).toInt64))), (0, .ref (w 0))]) hx hb dX7_digest_25 hl (k := 1) rfl (n_inc 1 1 rfl) (by decide) rfl (fun ls hl => ?_)
  refine lv_goto (tgt := 6) hx hb dX7_digest_28 (by decide) ?_
  refine lv_iload_n hx hb dX7_digest_6 rfl (lv_at hl 0 rfl) ?_
  refine lv_bipush (v := nI 14) hx hb dX7_digest_7 (by decide) ?_
  refine n_icmp_ge (a := 2) (b := 14) (tgt := 31) hx hb (by decide) (by decide) dX7_digest_9 (by decide) (fun h9 => absurd h9 (by decide)) (fun c_3 => ?_)
  refine lv_ldc2 (v := 31) hx hb hown (hts (.constantLong RX7 307 (31)) (by decide +kernel)) dX7_digest_12 ?_
  refine lv_lload_n hx hb dX7_digest_15 rfl (lv_at hl 1 rfl) ?_
  refine lv_lmul hx hb dX7_digest_16 ?_
  refine lv_aload_n hx hb dX7_digest_17 rfl (lv_at hl 2 rfl) ?_
  refine lv_iload_n hx hb dX7_digest_18 rfl (lv_at hl 0 rfl) ?_
  refine k_roV (As := [.int (nI 2)]) (rest := [.long ((31 : Int64) * (((31 : Int64) * (((31 : Int64) * (3911 : Int64)) + ((pCt S nh 0).toInt64))) + ((pCt S nh 1).toInt64)))]) (wc := oX7 w q qz h t gr u tr oc Sw ++ oX3 T q S ++ oX1 T h qs Sh Hs) (d := 2) (v := pCt S nh 2) cx (c_X7_count l G T A w q qz h t gr u tr oc Sw S Sh qs Hs nh 2 hnh (by omega) (by first | assumption | rfl | omega)) (cwV 1 hts gX7_digest_X7_count rfl rfl rfl (by decide +kernel) ⟨Nat.le_of_ble_eq_true rfl, Nat.le_of_ble_eq_true rfl⟩) (hP.sub (ws' := oX7 w q qz h t gr u tr oc Sw ++ oX3 T q S ++ oX1 T h qs Sh Hs) [0, 1, 2, 3, 4, 5, 6, 7, 8, 9, 10, 11, 12, 13, 27, 28, 29, 30, 31, 32, 33, 34, 35, 36, 37, 38, 39, 40, 41, 42, 43, 44, 45, 46, 47, 48, 49, 50, 51, 52, 53, 54, 55, 56, 57, 58, 59, 60, 61, 62, 63, 64, 65, 66, 67, 68, 69, 70, 71, 72, 73, 74, 75, 76, 77, 78, 79, 80, 81, 82, 83, 84, 85, 86, 87, 88, 89, 90, 91, 92, 93, 94, 95, 96, 97, 98, 99, 100, 101, 102, 103, 104, 105, 106] rfl) hK (hE.kept hS.2.1) (va_recv hK hP (ci := 7) (q0 := 0) rfl rfl) rfl hl.1 rfl (Nat.le_of_ble_eq_true rfl) dX7_digest_19 ⟨Nat.le_of_ble_eq_true rfl, Nat.le_of_ble_eq_true rfl⟩ ?_
  refine lv_i2l (v := (pCt S nh 2).toInt64) hx hb dX7_digest_22 rfl ?_
  refine lv_ladd hx hb dX7_digest_23 ?_
  refine lv_lstore_n (lv' := [(1, .long (((31 : Int64) * (((31 : Int64) * (((31 : Int64) * (3911 : Int64)) + ((pCt S nh 0).toInt64))) + ((pCt S nh 1).toInt64))) + ((pCt S nh 2).toInt64))), (3, .int (nI 2)), (0, .ref (w 0))]) hx hb dX7_digest_24 rfl hl (by decide) rfl (fun ls hl => ?_)
  refine lv_iinc (v := nI 3) (lv' := [(3, .int (nI 3)), (1, .long (((31 : Int64) * (((31 : Int64) * (((31 : Int64) * (3911 : Int64)) + ((pCt S nh 0).toInt64))) + ((pCt S nh 1).toInt64))) + ((pCt S nh 2).toInt64))), (0, .ref (w 0))]) hx hb dX7_digest_25 hl (k := 1) rfl (n_inc 2 1 rfl) (by decide) rfl (fun ls hl => ?_)
  refine lv_goto (tgt := 6) hx hb dX7_digest_28 (by decide) ?_
  refine lv_iload_n hx hb dX7_digest_6 rfl (lv_at hl 0 rfl) ?_
  refine lv_bipush (v := nI 14) hx hb dX7_digest_7 (by decide) ?_
  refine n_icmp_ge (a := 3) (b := 14) (tgt := 31) hx hb (by decide) (by decide) dX7_digest_9 (by decide) (fun h9 => absurd h9 (by decide)) (fun c_4 => ?_)
  refine lv_ldc2 (v := 31) hx hb hown (hts (.constantLong RX7 307 (31)) (by decide +kernel)) dX7_digest_12 ?_
  refine lv_lload_n hx hb dX7_digest_15 rfl (lv_at hl 1 rfl) ?_
  refine lv_lmul hx hb dX7_digest_16 ?_
  refine lv_aload_n hx hb dX7_digest_17 rfl (lv_at hl 2 rfl) ?_
  refine lv_iload_n hx hb dX7_digest_18 rfl (lv_at hl 0 rfl) ?_
  refine k_rwV (As := [.int (nI 3)]) (rest := [.long ((31 : Int64) * (((31 : Int64) * (((31 : Int64) * (((31 : Int64) * (3911 : Int64)) + ((pCt S nh 0).toInt64))) + ((pCt S nh 1).toInt64))) + ((pCt S nh 2).toInt64)))]) (wc := (oC T (w, q, qz, h, qs, t, gr, u, tr, oc) (Sw, S, Z, Sh, Hs, X, Gg, U, K, O))) (wr := []) (w1 := (oC T (w, q, qz, h, qs, t, gr, u, tr, oc) (Sw, S, Z, Sh, Hs, X, Gg, U, gTr K S tl, O))) (d := 5) (mc := 0) (ms := 0) (v := nI (tG S tl 20).2.2) cx (w_X7_count_3 l G T H.size w q qz h qs t gr u tr oc Sw S Z Sh Hs X Gg U K O tl htl htl8) (cwV 1 hts gX7_digest_X7_count rfl rfl rfl (by decide +kernel) ⟨Nat.le_of_ble_eq_true rfl, Nat.le_of_ble_eq_true rfl⟩) (kN_full hP hD hS hA hE hK) (va_recv hK hP (ci := 7) (q0 := 0) rfl rfl) rfl hl.1 rfl (Nat.le_of_ble_eq_true rfl) dX7_digest_19 ⟨Nat.le_of_ble_eq_true rfl, Nat.le_of_ble_eq_true rfl⟩ (fun H locs hP hD hS hz => ?_)
  have hP : va_P G vwCl (oC T (w, q, qz, h, qs, t, gr, u, tr, oc) (Sw, S, Z, Sh, Hs, X, Gg, U, gTr K S tl, O)) H := hP
  have hD : va_D A (oC T (w, q, qz, h, qs, t, gr, u, tr, oc) (Sw, S, Z, Sh, Hs, X, Gg, U, gTr K S tl, O)) := hD
  refine lv_i2l (v := (nI (tG S tl 20).2.2).toInt64) hx hb dX7_digest_22 rfl ?_
  refine lv_ladd hx hb dX7_digest_23 ?_
  refine lv_lstore_n (lv' := [(1, .long (((31 : Int64) * (((31 : Int64) * (((31 : Int64) * (((31 : Int64) * (3911 : Int64)) + ((pCt S nh 0).toInt64))) + ((pCt S nh 1).toInt64))) + ((pCt S nh 2).toInt64))) + ((nI (tG S tl 20).2.2).toInt64))), (3, .int (nI 3)), (0, .ref (w 0))]) hx hb dX7_digest_24 rfl hl (by decide) rfl (fun ls hl => ?_)
  refine lv_iinc (v := nI 4) (lv' := [(3, .int (nI 4)), (1, .long (((31 : Int64) * (((31 : Int64) * (((31 : Int64) * (((31 : Int64) * (3911 : Int64)) + ((pCt S nh 0).toInt64))) + ((pCt S nh 1).toInt64))) + ((pCt S nh 2).toInt64))) + ((nI (tG S tl 20).2.2).toInt64))), (0, .ref (w 0))]) hx hb dX7_digest_25 hl (k := 1) rfl (n_inc 3 1 rfl) (by decide) rfl (fun ls hl => ?_)
  refine lv_goto (tgt := 6) hx hb dX7_digest_28 (by decide) ?_
  refine lv_iload_n hx hb dX7_digest_6 rfl (lv_at hl 0 rfl) ?_
  refine lv_bipush (v := nI 14) hx hb dX7_digest_7 (by decide) ?_
  refine n_icmp_ge (a := 4) (b := 14) (tgt := 31) hx hb (by decide) (by decide) dX7_digest_9 (by decide) (fun h9 => absurd h9 (by decide)) (fun c_5 => ?_)
  refine lv_ldc2 (v := 31) hx hb hown (hts (.constantLong RX7 307 (31)) (by decide +kernel)) dX7_digest_12 ?_
  refine lv_lload_n hx hb dX7_digest_15 rfl (lv_at hl 1 rfl) ?_
  refine lv_lmul hx hb dX7_digest_16 ?_
  refine lv_aload_n hx hb dX7_digest_17 rfl (lv_at hl 2 rfl) ?_
  refine lv_iload_n hx hb dX7_digest_18 rfl (lv_at hl 0 rfl) ?_
  refine k_roV (As := [.int (nI 4)]) (rest := [.long ((31 : Int64) * (((31 : Int64) * (((31 : Int64) * (((31 : Int64) * (((31 : Int64) * (3911 : Int64)) + ((pCt S nh 0).toInt64))) + ((pCt S nh 1).toInt64))) + ((pCt S nh 2).toInt64))) + ((nI (tG S tl 20).2.2).toInt64)))]) (wc := oX7 w q qz h t gr u tr oc Sw ++ oX3 T q S ++ oX1 T h qs Sh Hs) (d := 2) (v := pCt S nh 4) cx (c_X7_count l G T A w q qz h t gr u tr oc Sw S Sh qs Hs nh 4 hnh (by omega) (by first | assumption | rfl | omega)) (cwV 1 hts gX7_digest_X7_count rfl rfl rfl (by decide +kernel) ⟨Nat.le_of_ble_eq_true rfl, Nat.le_of_ble_eq_true rfl⟩) (hP.sub (ws' := oX7 w q qz h t gr u tr oc Sw ++ oX3 T q S ++ oX1 T h qs Sh Hs) [0, 1, 2, 3, 4, 5, 6, 7, 8, 9, 10, 11, 12, 13, 27, 28, 29, 30, 31, 32, 33, 34, 35, 36, 37, 38, 39, 40, 41, 42, 43, 44, 45, 46, 47, 48, 49, 50, 51, 52, 53, 54, 55, 56, 57, 58, 59, 60, 61, 62, 63, 64, 65, 66, 67, 68, 69, 70, 71, 72, 73, 74, 75, 76, 77, 78, 79, 80, 81, 82, 83, 84, 85, 86, 87, 88, 89, 90, 91, 92, 93, 94, 95, 96, 97, 98, 99, 100, 101, 102, 103, 104, 105, 106] rfl) hK (hE.kept hS.2.1) (va_recv hK hP (ci := 7) (q0 := 0) rfl rfl) rfl hl.1 rfl (Nat.le_of_ble_eq_true rfl) dX7_digest_19 ⟨Nat.le_of_ble_eq_true rfl, Nat.le_of_ble_eq_true rfl⟩ ?_
  refine lv_i2l (v := (pCt S nh 4).toInt64) hx hb dX7_digest_22 rfl ?_
  refine lv_ladd hx hb dX7_digest_23 ?_
  refine lv_lstore_n (lv' := [(1, .long (((31 : Int64) * (((31 : Int64) * (((31 : Int64) * (((31 : Int64) * (((31 : Int64) * (3911 : Int64)) + ((pCt S nh 0).toInt64))) + ((pCt S nh 1).toInt64))) + ((pCt S nh 2).toInt64))) + ((nI (tG S tl 20).2.2).toInt64))) + ((pCt S nh 4).toInt64))), (3, .int (nI 4)), (0, .ref (w 0))]) hx hb dX7_digest_24 rfl hl (by decide) rfl (fun ls hl => ?_)
  refine lv_iinc (v := nI 5) (lv' := [(3, .int (nI 5)), (1, .long (((31 : Int64) * (((31 : Int64) * (((31 : Int64) * (((31 : Int64) * (((31 : Int64) * (3911 : Int64)) + ((pCt S nh 0).toInt64))) + ((pCt S nh 1).toInt64))) + ((pCt S nh 2).toInt64))) + ((nI (tG S tl 20).2.2).toInt64))) + ((pCt S nh 4).toInt64))), (0, .ref (w 0))]) hx hb dX7_digest_25 hl (k := 1) rfl (n_inc 4 1 rfl) (by decide) rfl (fun ls hl => ?_)
  refine lv_goto (tgt := 6) hx hb dX7_digest_28 (by decide) ?_
  refine lv_iload_n hx hb dX7_digest_6 rfl (lv_at hl 0 rfl) ?_
  refine lv_bipush (v := nI 14) hx hb dX7_digest_7 (by decide) ?_
  refine n_icmp_ge (a := 5) (b := 14) (tgt := 31) hx hb (by decide) (by decide) dX7_digest_9 (by decide) (fun h9 => absurd h9 (by decide)) (fun c_6 => ?_)
  refine lv_ldc2 (v := 31) hx hb hown (hts (.constantLong RX7 307 (31)) (by decide +kernel)) dX7_digest_12 ?_
  refine lv_lload_n hx hb dX7_digest_15 rfl (lv_at hl 1 rfl) ?_
  refine lv_lmul hx hb dX7_digest_16 ?_
  refine lv_aload_n hx hb dX7_digest_17 rfl (lv_at hl 2 rfl) ?_
  refine lv_iload_n hx hb dX7_digest_18 rfl (lv_at hl 0 rfl) ?_
  refine k_roV (As := [.int (nI 5)]) (rest := [.long ((31 : Int64) * (((31 : Int64) * (((31 : Int64) * (((31 : Int64) * (((31 : Int64) * (((31 : Int64) * (3911 : Int64)) + ((pCt S nh 0).toInt64))) + ((pCt S nh 1).toInt64))) + ((pCt S nh 2).toInt64))) + ((nI (tG S tl 20).2.2).toInt64))) + ((pCt S nh 4).toInt64)))]) (wc := oX7 w q qz h t gr u tr oc Sw ++ oX3 T q S ++ oX1 T h qs Sh Hs) (d := 2) (v := pCt S nh 5) cx (c_X7_count l G T A w q qz h t gr u tr oc Sw S Sh qs Hs nh 5 hnh (by omega) (by first | assumption | rfl | omega)) (cwV 1 hts gX7_digest_X7_count rfl rfl rfl (by decide +kernel) ⟨Nat.le_of_ble_eq_true rfl, Nat.le_of_ble_eq_true rfl⟩) (hP.sub (ws' := oX7 w q qz h t gr u tr oc Sw ++ oX3 T q S ++ oX1 T h qs Sh Hs) [0, 1, 2, 3, 4, 5, 6, 7, 8, 9, 10, 11, 12, 13, 27, 28, 29, 30, 31, 32, 33, 34, 35, 36, 37, 38, 39, 40, 41, 42, 43, 44, 45, 46, 47, 48, 49, 50, 51, 52, 53, 54, 55, 56, 57, 58, 59, 60, 61, 62, 63, 64, 65, 66, 67, 68, 69, 70, 71, 72, 73, 74, 75, 76, 77, 78, 79, 80, 81, 82, 83, 84, 85, 86, 87, 88, 89, 90, 91, 92, 93, 94, 95, 96, 97, 98, 99, 100, 101, 102, 103, 104, 105, 106] rfl) hK (hE.kept hS.2.1) (va_recv hK hP (ci := 7) (q0 := 0) rfl rfl) rfl hl.1 rfl (Nat.le_of_ble_eq_true rfl) dX7_digest_19 ⟨Nat.le_of_ble_eq_true rfl, Nat.le_of_ble_eq_true rfl⟩ ?_
  refine lv_i2l (v := (pCt S nh 5).toInt64) hx hb dX7_digest_22 rfl ?_
  refine lv_ladd hx hb dX7_digest_23 ?_
  refine lv_lstore_n (lv' := [(1, .long (((31 : Int64) * (((31 : Int64) * (((31 : Int64) * (((31 : Int64) * (((31 : Int64) * (((31 : Int64) * (3911 : Int64)) + ((pCt S nh 0).toInt64))) + ((pCt S nh 1).toInt64))) + ((pCt S nh 2).toInt64))) + ((nI (tG S tl 20).2.2).toInt64))) + ((pCt S nh 4).toInt64))) + ((pCt S nh 5).toInt64))), (3, .int (nI 5)), (0, .ref (w 0))]) hx hb dX7_digest_24 rfl hl (by decide) rfl (fun ls hl => ?_)
  refine lv_iinc (v := nI 6) (lv' := [(3, .int (nI 6)), (1, .long (((31 : Int64) * (((31 : Int64) * (((31 : Int64) * (((31 : Int64) * (((31 : Int64) * (((31 : Int64) * (3911 : Int64)) + ((pCt S nh 0).toInt64))) + ((pCt S nh 1).toInt64))) + ((pCt S nh 2).toInt64))) + ((nI (tG S tl 20).2.2).toInt64))) + ((pCt S nh 4).toInt64))) + ((pCt S nh 5).toInt64))), (0, .ref (w 0))]) hx hb dX7_digest_25 hl (k := 1) rfl (n_inc 5 1 rfl) (by decide) rfl (fun ls hl => ?_)
  refine lv_goto (tgt := 6) hx hb dX7_digest_28 (by decide) ?_
  refine lv_iload_n hx hb dX7_digest_6 rfl (lv_at hl 0 rfl) ?_
  refine lv_bipush (v := nI 14) hx hb dX7_digest_7 (by decide) ?_
  refine n_icmp_ge (a := 6) (b := 14) (tgt := 31) hx hb (by decide) (by decide) dX7_digest_9 (by decide) (fun h9 => absurd h9 (by decide)) (fun c_7 => ?_)
  refine lv_ldc2 (v := 31) hx hb hown (hts (.constantLong RX7 307 (31)) (by decide +kernel)) dX7_digest_12 ?_
  refine lv_lload_n hx hb dX7_digest_15 rfl (lv_at hl 1 rfl) ?_
  refine lv_lmul hx hb dX7_digest_16 ?_
  refine lv_aload_n hx hb dX7_digest_17 rfl (lv_at hl 2 rfl) ?_
  refine lv_iload_n hx hb dX7_digest_18 rfl (lv_at hl 0 rfl) ?_
  refine k_roV (As := [.int (nI 6)]) (rest := [.long ((31 : Int64) * (((31 : Int64) * (((31 : Int64) * (((31 : Int64) * (((31 : Int64) * (((31 : Int64) * (((31 : Int64) * (3911 : Int64)) + ((pCt S nh 0).toInt64))) + ((pCt S nh 1).toInt64))) + ((pCt S nh 2).toInt64))) + ((nI (tG S tl 20).2.2).toInt64))) + ((pCt S nh 4).toInt64))) + ((pCt S nh 5).toInt64)))]) (wc := oX7 w q qz h t gr u tr oc Sw ++ oX3 T q S ++ oX1 T h qs Sh Hs) (d := 2) (v := pCt S nh 6) cx (c_X7_count l G T A w q qz h t gr u tr oc Sw S Sh qs Hs nh 6 hnh (by omega) (by first | assumption | rfl | omega)) (cwV 1 hts gX7_digest_X7_count rfl rfl rfl (by decide +kernel) ⟨Nat.le_of_ble_eq_true rfl, Nat.le_of_ble_eq_true rfl⟩) (hP.sub (ws' := oX7 w q qz h t gr u tr oc Sw ++ oX3 T q S ++ oX1 T h qs Sh Hs) [0, 1, 2, 3, 4, 5, 6, 7, 8, 9, 10, 11, 12, 13, 27, 28, 29, 30, 31, 32, 33, 34, 35, 36, 37, 38, 39, 40, 41, 42, 43, 44, 45, 46, 47, 48, 49, 50, 51, 52, 53, 54, 55, 56, 57, 58, 59, 60, 61, 62, 63, 64, 65, 66, 67, 68, 69, 70, 71, 72, 73, 74, 75, 76, 77, 78, 79, 80, 81, 82, 83, 84, 85, 86, 87, 88, 89, 90, 91, 92, 93, 94, 95, 96, 97, 98, 99, 100, 101, 102, 103, 104, 105, 106] rfl) hK (hE.kept hS.2.1) (va_recv hK hP (ci := 7) (q0 := 0) rfl rfl) rfl hl.1 rfl (Nat.le_of_ble_eq_true rfl) dX7_digest_19 ⟨Nat.le_of_ble_eq_true rfl, Nat.le_of_ble_eq_true rfl⟩ ?_
  refine lv_i2l (v := (pCt S nh 6).toInt64) hx hb dX7_digest_22 rfl ?_
  refine lv_ladd hx hb dX7_digest_23 ?_
  refine lv_lstore_n (lv' := [(1, .long (((31 : Int64) * (((31 : Int64) * (((31 : Int64) * (((31 : Int64) * (((31 : Int64) * (((31 : Int64) * (((31 : Int64) * (3911 : Int64)) + ((pCt S nh 0).toInt64))) + ((pCt S nh 1).toInt64))) + ((pCt S nh 2).toInt64))) + ((nI (tG S tl 20).2.2).toInt64))) + ((pCt S nh 4).toInt64))) + ((pCt S nh 5).toInt64))) + ((pCt S nh 6).toInt64))), (3, .int (nI 6)), (0, .ref (w 0))]) hx hb dX7_digest_24 rfl hl (by decide) rfl (fun ls hl => ?_)
  refine lv_iinc (v := nI 7) (lv' := [(3, .int (nI 7)), (1, .long (((31 : Int64) * (((31 : Int64) * (((31 : Int64) * (((31 : Int64) * (((31 : Int64) * (((31 : Int64) * (((31 : Int64) * (3911 : Int64)) + ((pCt S nh 0).toInt64))) + ((pCt S nh 1).toInt64))) + ((pCt S nh 2).toInt64))) + ((nI (tG S tl 20).2.2).toInt64))) + ((pCt S nh 4).toInt64))) + ((pCt S nh 5).toInt64))) + ((pCt S nh 6).toInt64))), (0, .ref (w 0))]) hx hb dX7_digest_25 hl (k := 1) rfl (n_inc 6 1 rfl) (by decide) rfl (fun ls hl => ?_)
  refine lv_goto (tgt := 6) hx hb dX7_digest_28 (by decide) ?_
  refine lv_iload_n hx hb dX7_digest_6 rfl (lv_at hl 0 rfl) ?_
  refine lv_bipush (v := nI 14) hx hb dX7_digest_7 (by decide) ?_
  refine n_icmp_ge (a := 7) (b := 14) (tgt := 31) hx hb (by decide) (by decide) dX7_digest_9 (by decide) (fun h9 => absurd h9 (by decide)) (fun c_8 => ?_)
  refine lv_ldc2 (v := 31) hx hb hown (hts (.constantLong RX7 307 (31)) (by decide +kernel)) dX7_digest_12 ?_
  refine lv_lload_n hx hb dX7_digest_15 rfl (lv_at hl 1 rfl) ?_
  refine lv_lmul hx hb dX7_digest_16 ?_
  refine lv_aload_n hx hb dX7_digest_17 rfl (lv_at hl 2 rfl) ?_
  refine lv_iload_n hx hb dX7_digest_18 rfl (lv_at hl 0 rfl) ?_
  refine k_roV (As := [.int (nI 7)]) (rest := [.long ((31 : Int64) * (((31 : Int64) * (((31 : Int64) * (((31 : Int64) * (((31 : Int64) * (((31 : Int64) * (((31 : Int64) * (((31 : Int64) * (3911 : Int64)) + ((pCt S nh 0).toInt64))) + ((pCt S nh 1).toInt64))) + ((pCt S nh 2).toInt64))) + ((nI (tG S tl 20).2.2).toInt64))) + ((pCt S nh 4).toInt64))) + ((pCt S nh 5).toInt64))) + ((pCt S nh 6).toInt64)))]) (wc := oX7 w q qz h t gr u tr oc Sw ++ oX3 T q S ++ oX1 T h qs Sh Hs) (d := 2) (v := pCt S nh 7) cx (c_X7_count l G T A w q qz h t gr u tr oc Sw S Sh qs Hs nh 7 hnh (by omega) (by first | assumption | rfl | omega)) (cwV 1 hts gX7_digest_X7_count rfl rfl rfl (by decide +kernel) ⟨Nat.le_of_ble_eq_true rfl, Nat.le_of_ble_eq_true rfl⟩) (hP.sub (ws' := oX7 w q qz h t gr u tr oc Sw ++ oX3 T q S ++ oX1 T h qs Sh Hs) [0, 1, 2, 3, 4, 5, 6, 7, 8, 9, 10, 11, 12, 13, 27, 28, 29, 30, 31, 32, 33, 34, 35, 36, 37, 38, 39, 40, 41, 42, 43, 44, 45, 46, 47, 48, 49, 50, 51, 52, 53, 54, 55, 56, 57, 58, 59, 60, 61, 62, 63, 64, 65, 66, 67, 68, 69, 70, 71, 72, 73, 74, 75, 76, 77, 78, 79, 80, 81, 82, 83, 84, 85, 86, 87, 88, 89, 90, 91, 92, 93, 94, 95, 96, 97, 98, 99, 100, 101, 102, 103, 104, 105, 106] rfl) hK (hE.kept hS.2.1) (va_recv hK hP (ci := 7) (q0 := 0) rfl rfl) rfl hl.1 rfl (Nat.le_of_ble_eq_true rfl) dX7_digest_19 ⟨Nat.le_of_ble_eq_true rfl, Nat.le_of_ble_eq_true rfl⟩ ?_
  refine lv_i2l (v := (pCt S nh 7).toInt64) hx hb dX7_digest_22 rfl ?_
  refine lv_ladd hx hb dX7_digest_23 ?_
  refine lv_lstore_n (lv' := [(1, .long (((31 : Int64) * (((31 : Int64) * (((31 : Int64) * (((31 : Int64) * (((31 : Int64) * (((31 : Int64) * (((31 : Int64) * (((31 : Int64) * (3911 : Int64)) + ((pCt S nh 0).toInt64))) + ((pCt S nh 1).toInt64))) + ((pCt S nh 2).toInt64))) + ((nI (tG S tl 20).2.2).toInt64))) + ((pCt S nh 4).toInt64))) + ((pCt S nh 5).toInt64))) + ((pCt S nh 6).toInt64))) + ((pCt S nh 7).toInt64))), (3, .int (nI 7)), (0, .ref (w 0))]) hx hb dX7_digest_24 rfl hl (by decide) rfl (fun ls hl => ?_)
  refine lv_iinc (v := nI 8) (lv' := [(3, .int (nI 8)), (1, .long (((31 : Int64) * (((31 : Int64) * (((31 : Int64) * (((31 : Int64) * (((31 : Int64) * (((31 : Int64) * (((31 : Int64) * (((31 : Int64) * (3911 : Int64)) + ((pCt S nh 0).toInt64))) + ((pCt S nh 1).toInt64))) + ((pCt S nh 2).toInt64))) + ((nI (tG S tl 20).2.2).toInt64))) + ((pCt S nh 4).toInt64))) + ((pCt S nh 5).toInt64))) + ((pCt S nh 6).toInt64))) + ((pCt S nh 7).toInt64))), (0, .ref (w 0))]) hx hb dX7_digest_25 hl (k := 1) rfl (n_inc 7 1 rfl) (by decide) rfl (fun ls hl => ?_)
  refine lv_goto (tgt := 6) hx hb dX7_digest_28 (by decide) ?_
  refine lv_iload_n hx hb dX7_digest_6 rfl (lv_at hl 0 rfl) ?_
  refine lv_bipush (v := nI 14) hx hb dX7_digest_7 (by decide) ?_
  refine n_icmp_ge (a := 8) (b := 14) (tgt := 31) hx hb (by decide) (by decide) dX7_digest_9 (by decide) (fun h9 => absurd h9 (by decide)) (fun c_9 => ?_)
  refine lv_ldc2 (v := 31) hx hb hown (hts (.constantLong RX7 307 (31)) (by decide +kernel)) dX7_digest_12 ?_
  refine lv_lload_n hx hb dX7_digest_15 rfl (lv_at hl 1 rfl) ?_
  refine lv_lmul hx hb dX7_digest_16 ?_
  refine lv_aload_n hx hb dX7_digest_17 rfl (lv_at hl 2 rfl) ?_
  refine lv_iload_n hx hb dX7_digest_18 rfl (lv_at hl 0 rfl) ?_
  refine k_roV (As := [.int (nI 8)]) (rest := [.long ((31 : Int64) * (((31 : Int64) * (((31 : Int64) * (((31 : Int64) * (((31 : Int64) * (((31 : Int64) * (((31 : Int64) * (((31 : Int64) * (((31 : Int64) * (3911 : Int64)) + ((pCt S nh 0).toInt64))) + ((pCt S nh 1).toInt64))) + ((pCt S nh 2).toInt64))) + ((nI (tG S tl 20).2.2).toInt64))) + ((pCt S nh 4).toInt64))) + ((pCt S nh 5).toInt64))) + ((pCt S nh 6).toInt64))) + ((pCt S nh 7).toInt64)))]) (wc := oX7 w q qz h t gr u tr oc Sw ++ oX3 T q S ++ oX1 T h qs Sh Hs) (d := 2) (v := pCt S nh 8) cx (c_X7_count l G T A w q qz h t gr u tr oc Sw S Sh qs Hs nh 8 hnh (by omega) (by first | assumption | rfl | omega)) (cwV 1 hts gX7_digest_X7_count rfl rfl rfl (by decide +kernel) ⟨Nat.le_of_ble_eq_true rfl, Nat.le_of_ble_eq_true rfl⟩) (hP.sub (ws' := oX7 w q qz h t gr u tr oc Sw ++ oX3 T q S ++ oX1 T h qs Sh Hs) [0, 1, 2, 3, 4, 5, 6, 7, 8, 9, 10, 11, 12, 13, 27, 28, 29, 30, 31, 32, 33, 34, 35, 36, 37, 38, 39, 40, 41, 42, 43, 44, 45, 46, 47, 48, 49, 50, 51, 52, 53, 54, 55, 56, 57, 58, 59, 60, 61, 62, 63, 64, 65, 66, 67, 68, 69, 70, 71, 72, 73, 74, 75, 76, 77, 78, 79, 80, 81, 82, 83, 84, 85, 86, 87, 88, 89, 90, 91, 92, 93, 94, 95, 96, 97, 98, 99, 100, 101, 102, 103, 104, 105, 106] rfl) hK (hE.kept hS.2.1) (va_recv hK hP (ci := 7) (q0 := 0) rfl rfl) rfl hl.1 rfl (Nat.le_of_ble_eq_true rfl) dX7_digest_19 ⟨Nat.le_of_ble_eq_true rfl, Nat.le_of_ble_eq_true rfl⟩ ?_
  refine lv_i2l (v := (pCt S nh 8).toInt64) hx hb dX7_digest_22 rfl ?_
  refine lv_ladd hx hb dX7_digest_23 ?_
  refine lv_lstore_n (lv' := [(1, .long (((31 : Int64) * (((31 : Int64) * (((31 : Int64) * (((31 : Int64) * (((31 : Int64) * (((31 : Int64) * (((31 : Int64) * (((31 : Int64) * (((31 : Int64) * (3911 : Int64)) + ((pCt S nh 0).toInt64))) + ((pCt S nh 1).toInt64))) + ((pCt S nh 2).toInt64))) + ((nI (tG S tl 20).2.2).toInt64))) + ((pCt S nh 4).toInt64))) + ((pCt S nh 5).toInt64))) + ((pCt S nh 6).toInt64))) + ((pCt S nh 7).toInt64))) + ((pCt S nh 8).toInt64))), (3, .int (nI 8)), (0, .ref (w 0))]) hx hb dX7_digest_24 rfl hl (by decide) rfl (fun ls hl => ?_)
  refine lv_iinc (v := nI 9) (lv' := [(3, .int (nI 9)), (1, .long (((31 : Int64) * (((31 : Int64) * (((31 : Int64) * (((31 : Int64) * (((31 : Int64) * (((31 : Int64) * (((31 : Int64) * (((31 : Int64) * (((31 : Int64) * (3911 : Int64)) + ((pCt S nh 0).toInt64))) + ((pCt S nh 1).toInt64))) + ((pCt S nh 2).toInt64))) + ((nI (tG S tl 20).2.2).toInt64))) + ((pCt S nh 4).toInt64))) + ((pCt S nh 5).toInt64))) + ((pCt S nh 6).toInt64))) + ((pCt S nh 7).toInt64))) + ((pCt S nh 8).toInt64))), (0, .ref (w 0))]) hx hb dX7_digest_25 hl (k := 1) rfl (n_inc 8 1 rfl) (by decide) rfl (fun ls hl => ?_)
  refine lv_goto (tgt := 6) hx hb dX7_digest_28 (by decide) ?_
  refine lv_iload_n hx hb dX7_digest_6 rfl (lv_at hl 0 rfl) ?_
  refine lv_bipush (v := nI 14) hx hb dX7_digest_7 (by decide) ?_
  refine n_icmp_ge (a := 9) (b := 14) (tgt := 31) hx hb (by decide) (by decide) dX7_digest_9 (by decide) (fun h9 => absurd h9 (by decide)) (fun c_10 => ?_)
  refine lv_ldc2 (v := 31) hx hb hown (hts (.constantLong RX7 307 (31)) (by decide +kernel)) dX7_digest_12 ?_
  refine lv_lload_n hx hb dX7_digest_15 rfl (lv_at hl 1 rfl) ?_
  refine lv_lmul hx hb dX7_digest_16 ?_
  refine lv_aload_n hx hb dX7_digest_17 rfl (lv_at hl 2 rfl) ?_
  refine lv_iload_n hx hb dX7_digest_18 rfl (lv_at hl 0 rfl) ?_
  refine k_roV (As := [.int (nI 9)]) (rest := [.long ((31 : Int64) * (((31 : Int64) * (((31 : Int64) * (((31 : Int64) * (((31 : Int64) * (((31 : Int64) * (((31 : Int64) * (((31 : Int64) * (((31 : Int64) * (((31 : Int64) * (3911 : Int64)) + ((pCt S nh 0).toInt64))) + ((pCt S nh 1).toInt64))) + ((pCt S nh 2).toInt64))) + ((nI (tG S tl 20).2.2).toInt64))) + ((pCt S nh 4).toInt64))) + ((pCt S nh 5).toInt64))) + ((pCt S nh 6).toInt64))) + ((pCt S nh 7).toInt64))) + ((pCt S nh 8).toInt64)))]) (wc := oX7 w q qz h t gr u tr oc Sw ++ oX3 T q S ++ oX1 T h qs Sh Hs) (d := 2) (v := pCt S nh 9) cx (c_X7_count l G T A w q qz h t gr u tr oc Sw S Sh qs Hs nh 9 hnh (by omega) (by first | assumption | rfl | omega)) (cwV 1 hts gX7_digest_X7_count rfl rfl rfl (by decide +kernel) ⟨Nat.le_of_ble_eq_true rfl, Nat.le_of_ble_eq_true rfl⟩) (hP.sub (ws' := oX7 w q qz h t gr u tr oc Sw ++ oX3 T q S ++ oX1 T h qs Sh Hs) [0, 1, 2, 3, 4, 5, 6, 7, 8, 9, 10, 11, 12, 13, 27, 28, 29, 30, 31, 32, 33, 34, 35, 36, 37, 38, 39, 40, 41, 42, 43, 44, 45, 46, 47, 48, 49, 50, 51, 52, 53, 54, 55, 56, 57, 58, 59, 60, 61, 62, 63, 64, 65, 66, 67, 68, 69, 70, 71, 72, 73, 74, 75, 76, 77, 78, 79, 80, 81, 82, 83, 84, 85, 86, 87, 88, 89, 90, 91, 92, 93, 94, 95, 96, 97, 98, 99, 100, 101, 102, 103, 104, 105, 106] rfl) hK (hE.kept hS.2.1) (va_recv hK hP (ci := 7) (q0 := 0) rfl rfl) rfl hl.1 rfl (Nat.le_of_ble_eq_true rfl) dX7_digest_19 ⟨Nat.le_of_ble_eq_true rfl, Nat.le_of_ble_eq_true rfl⟩ ?_
  refine lv_i2l (v := (pCt S nh 9).toInt64) hx hb dX7_digest_22 rfl ?_
  refine lv_ladd hx hb dX7_digest_23 ?_
  refine lv_lstore_n (lv' := [(1, .long (((31 : Int64) * (((31 : Int64) * (((31 : Int64) * (((31 : Int64) * (((31 : Int64) * (((31 : Int64) * (((31 : Int64) * (((31 : Int64) * (((31 : Int64) * (((31 : Int64) * (3911 : Int64)) + ((pCt S nh 0).toInt64))) + ((pCt S nh 1).toInt64))) + ((pCt S nh 2).toInt64))) + ((nI (tG S tl 20).2.2).toInt64))) + ((pCt S nh 4).toInt64))) + ((pCt S nh 5).toInt64))) + ((pCt S nh 6).toInt64))) + ((pCt S nh 7).toInt64))) + ((pCt S nh 8).toInt64))) + ((pCt S nh 9).toInt64))), (3, .int (nI 9)), (0, .ref (w 0))]) hx hb dX7_digest_24 rfl hl (by decide) rfl (fun ls hl => ?_)
  refine lv_iinc (v := nI 10) (lv' := [(3, .int (nI 10)), (1, .long (((31 : Int64) * (((31 : Int64) * (((31 : Int64) * (((31 : Int64) * (((31 : Int64) * (((31 : Int64) * (((31 : Int64) * (((31 : Int64) * (((31 : Int64) * (((31 : Int64) * (3911 : Int64)) + ((pCt S nh 0).toInt64))) + ((pCt S nh 1).toInt64))) + ((pCt S nh 2).toInt64))) + ((nI (tG S tl 20).2.2).toInt64))) + ((pCt S nh 4).toInt64))) + ((pCt S nh 5).toInt64))) + ((pCt S nh 6).toInt64))) + ((pCt S nh 7).toInt64))) + ((pCt S nh 8).toInt64))) + ((pCt S nh 9).toInt64))), (0, .ref (w 0))]) hx hb dX7_digest_25 hl (k := 1) rfl (n_inc 9 1 rfl) (by decide) rfl (fun ls hl => ?_)
  refine lv_goto (tgt := 6) hx hb dX7_digest_28 (by decide) ?_
  refine lv_iload_n hx hb dX7_digest_6 rfl (lv_at hl 0 rfl) ?_
  refine lv_bipush (v := nI 14) hx hb dX7_digest_7 (by decide) ?_
  refine n_icmp_ge (a := 10) (b := 14) (tgt := 31) hx hb (by decide) (by decide) dX7_digest_9 (by decide) (fun h9 => absurd h9 (by decide)) (fun c_11 => ?_)
  refine lv_ldc2 (v := 31) hx hb hown (hts (.constantLong RX7 307 (31)) (by decide +kernel)) dX7_digest_12 ?_
  refine lv_lload_n hx hb dX7_digest_15 rfl (lv_at hl 1 rfl) ?_
  refine lv_lmul hx hb dX7_digest_16 ?_
  refine lv_aload_n hx hb dX7_digest_17 rfl (lv_at hl 2 rfl) ?_
  refine lv_iload_n hx hb dX7_digest_18 rfl (lv_at hl 0 rfl) ?_
  refine k_roV (As := [.int (nI 10)]) (rest := [.long ((31 : Int64) * (((31 : Int64) * (((31 : Int64) * (((31 : Int64) * (((31 : Int64) * (((31 : Int64) * (((31 : Int64) * (((31 : Int64) * (((31 : Int64) * (((31 : Int64) * (((31 : Int64) * (3911 : Int64)) + ((pCt S nh 0).toInt64))) + ((pCt S nh 1).toInt64))) + ((pCt S nh 2).toInt64))) + ((nI (tG S tl 20).2.2).toInt64))) + ((pCt S nh 4).toInt64))) + ((pCt S nh 5).toInt64))) + ((pCt S nh 6).toInt64))) + ((pCt S nh 7).toInt64))) + ((pCt S nh 8).toInt64))) + ((pCt S nh 9).toInt64)))]) (wc := oX7 w q qz h t gr u tr oc Sw ++ oX3 T q S ++ oX1 T h qs Sh Hs) (d := 2) (v := pCt S nh 10) cx (c_X7_count l G T A w q qz h t gr u tr oc Sw S Sh qs Hs nh 10 hnh (by omega) (by first | assumption | rfl | omega)) (cwV 1 hts gX7_digest_X7_count rfl rfl rfl (by decide +kernel) ⟨Nat.le_of_ble_eq_true rfl, Nat.le_of_ble_eq_true rfl⟩) (hP.sub (ws' := oX7 w q qz h t gr u tr oc Sw ++ oX3 T q S ++ oX1 T h qs Sh Hs) [0, 1, 2, 3, 4, 5, 6, 7, 8, 9, 10, 11, 12, 13, 27, 28, 29, 30, 31, 32, 33, 34, 35, 36, 37, 38, 39, 40, 41, 42, 43, 44, 45, 46, 47, 48, 49, 50, 51, 52, 53, 54, 55, 56, 57, 58, 59, 60, 61, 62, 63, 64, 65, 66, 67, 68, 69, 70, 71, 72, 73, 74, 75, 76, 77, 78, 79, 80, 81, 82, 83, 84, 85, 86, 87, 88, 89, 90, 91, 92, 93, 94, 95, 96, 97, 98, 99, 100, 101, 102, 103, 104, 105, 106] rfl) hK (hE.kept hS.2.1) (va_recv hK hP (ci := 7) (q0 := 0) rfl rfl) rfl hl.1 rfl (Nat.le_of_ble_eq_true rfl) dX7_digest_19 ⟨Nat.le_of_ble_eq_true rfl, Nat.le_of_ble_eq_true rfl⟩ ?_
  refine lv_i2l (v := (pCt S nh 10).toInt64) hx hb dX7_digest_22 rfl ?_
  refine lv_ladd hx hb dX7_digest_23 ?_
  refine lv_lstore_n (lv' := [(1, .long (((31 : Int64) * (((31 : Int64) * (((31 : Int64) * (((31 : Int64) * (((31 : Int64) * (((31 : Int64) * (((31 : Int64) * (((31 : Int64) * (((31 : Int64) * (((31 : Int64) * (((31 : Int64) * (3911 : Int64)) + ((pCt S nh 0).toInt64))) + ((pCt S nh 1).toInt64))) + ((pCt S nh 2).toInt64))) + ((nI (tG S tl 20).2.2).toInt64))) + ((pCt S nh 4).toInt64))) + ((pCt S nh 5).toInt64))) + ((pCt S nh 6).toInt64))) + ((pCt S nh 7).toInt64))) + ((pCt S nh 8).toInt64))) + ((pCt S nh 9).toInt64))) + ((pCt S nh 10).toInt64))), (3, .int (nI 10)), (0, .ref (w 0))]) hx hb dX7_digest_24 rfl hl (by decide) rfl (fun ls hl => ?_)
  refine lv_iinc (v := nI 11) (lv' := [(3, .int (nI 11)), (1, .long (((31 : Int64) * (((31 : Int64) * (((31 : Int64) * (((31 : Int64) * (((31 : Int64) * (((31 : Int64) * (((31 : Int64) * (((31 : Int64) * (((31 : Int64) * (((31 : Int64) * (((31 : Int64) * (3911 : Int64)) + ((pCt S nh 0).toInt64))) + ((pCt S nh 1).toInt64))) + ((pCt S nh 2).toInt64))) + ((nI (tG S tl 20).2.2).toInt64))) + ((pCt S nh 4).toInt64))) + ((pCt S nh 5).toInt64))) + ((pCt S nh 6).toInt64))) + ((pCt S nh 7).toInt64))) + ((pCt S nh 8).toInt64))) + ((pCt S nh 9).toInt64))) + ((pCt S nh 10).toInt64))), (0, .ref (w 0))]) hx hb dX7_digest_25 hl (k := 1) rfl (n_inc 10 1 rfl) (by decide) rfl (fun ls hl => ?_)
  refine lv_goto (tgt := 6) hx hb dX7_digest_28 (by decide) ?_
  refine lv_iload_n hx hb dX7_digest_6 rfl (lv_at hl 0 rfl) ?_
  refine lv_bipush (v := nI 14) hx hb dX7_digest_7 (by decide) ?_
  refine n_icmp_ge (a := 11) (b := 14) (tgt := 31) hx hb (by decide) (by decide) dX7_digest_9 (by decide) (fun h9 => absurd h9 (by decide)) (fun c_12 => ?_)
  refine lv_ldc2 (v := 31) hx hb hown (hts (.constantLong RX7 307 (31)) (by decide +kernel)) dX7_digest_12 ?_
  refine lv_lload_n hx hb dX7_digest_15 rfl (lv_at hl 1 rfl) ?_
  refine lv_lmul hx hb dX7_digest_16 ?_
  refine lv_aload_n hx hb dX7_digest_17 rfl (lv_at hl 2 rfl) ?_
  refine lv_iload_n hx hb dX7_digest_18 rfl (lv_at hl 0 rfl) ?_
  refine k_roV (As := [.int (nI 11)]) (rest := [.long ((31 : Int64) * (((31 : Int64) * (((31 : Int64) * (((31 : Int64) * (((31 : Int64) * (((31 : Int64) * (((31 : Int64) * (((31 : Int64) * (((31 : Int64) * (((31 : Int64) * (((31 : Int64) * (((31 : Int64) * (3911 : Int64)) + ((pCt S nh 0).toInt64))) + ((pCt S nh 1).toInt64))) + ((pCt S nh 2).toInt64))) + ((nI (tG S tl 20).2.2).toInt64))) + ((pCt S nh 4).toInt64))) + ((pCt S nh 5).toInt64))) + ((pCt S nh 6).toInt64))) + ((pCt S nh 7).toInt64))) + ((pCt S nh 8).toInt64))) + ((pCt S nh 9).toInt64))) + ((pCt S nh 10).toInt64)))]) (wc := oX7 w q qz h t gr u tr oc Sw ++ oX3 T q S ++ oX1 T h qs Sh Hs) (d := 2) (v := pCt S nh 11) cx (c_X7_count l G T A w q qz h t gr u tr oc Sw S Sh qs Hs nh 11 hnh (by omega) (by first | assumption | rfl | omega)) (cwV 1 hts gX7_digest_X7_count rfl rfl rfl (by decide +kernel) ⟨Nat.le_of_ble_eq_true rfl, Nat.le_of_ble_eq_true rfl⟩) (hP.sub (ws' := oX7 w q qz h t gr u tr oc Sw ++ oX3 T q S ++ oX1 T h qs Sh Hs) [0, 1, 2, 3, 4, 5, 6, 7, 8, 9, 10, 11, 12, 13, 27, 28, 29, 30, 31, 32, 33, 34, 35, 36, 37, 38, 39, 40, 41, 42, 43, 44, 45, 46, 47, 48, 49, 50, 51, 52, 53, 54, 55, 56, 57, 58, 59, 60, 61, 62, 63, 64, 65, 66, 67, 68, 69, 70, 71, 72, 73, 74, 75, 76, 77, 78, 79, 80, 81, 82, 83, 84, 85, 86, 87, 88, 89, 90, 91, 92, 93, 94, 95, 96, 97, 98, 99, 100, 101, 102, 103, 104, 105, 106] rfl) hK (hE.kept hS.2.1) (va_recv hK hP (ci := 7) (q0 := 0) rfl rfl) rfl hl.1 rfl (Nat.le_of_ble_eq_true rfl) dX7_digest_19 ⟨Nat.le_of_ble_eq_true rfl, Nat.le_of_ble_eq_true rfl⟩ ?_
  refine lv_i2l (v := (pCt S nh 11).toInt64) hx hb dX7_digest_22 rfl ?_
  refine lv_ladd hx hb dX7_digest_23 ?_
  refine lv_lstore_n (lv' := [(1, .long (((31 : Int64) * (((31 : Int64) * (((31 : Int64) * (((31 : Int64) * (((31 : Int64) * (((31 : Int64) * (((31 : Int64) * (((31 : Int64) * (((31 : Int64) * (((31 : Int64) * (((31 : Int64) * (((31 : Int64) * (3911 : Int64)) + ((pCt S nh 0).toInt64))) + ((pCt S nh 1).toInt64))) + ((pCt S nh 2).toInt64))) + ((nI (tG S tl 20).2.2).toInt64))) + ((pCt S nh 4).toInt64))) + ((pCt S nh 5).toInt64))) + ((pCt S nh 6).toInt64))) + ((pCt S nh 7).toInt64))) + ((pCt S nh 8).toInt64))) + ((pCt S nh 9).toInt64))) + ((pCt S nh 10).toInt64))) + ((pCt S nh 11).toInt64))), (3, .int (nI 11)), (0, .ref (w 0))]) hx hb dX7_digest_24 rfl hl (by decide) rfl (fun ls hl => ?_)
  refine lv_iinc (v := nI 12) (lv' := [(3, .int (nI 12)), (1, .long (((31 : Int64) * (((31 : Int64) * (((31 : Int64) * (((31 : Int64) * (((31 : Int64) * (((31 : Int64) * (((31 : Int64) * (((31 : Int64) * (((31 : Int64) * (((31 : Int64) * (((31 : Int64) * (((31 : Int64) * (3911 : Int64)) + ((pCt S nh 0).toInt64))) + ((pCt S nh 1).toInt64))) + ((pCt S nh 2).toInt64))) + ((nI (tG S tl 20).2.2).toInt64))) + ((pCt S nh 4).toInt64))) + ((pCt S nh 5).toInt64))) + ((pCt S nh 6).toInt64))) + ((pCt S nh 7).toInt64))) + ((pCt S nh 8).toInt64))) + ((pCt S nh 9).toInt64))) + ((pCt S nh 10).toInt64))) + ((pCt S nh 11).toInt64))), (0, .ref (w 0))]) hx hb dX7_digest_25 hl (k := 1) rfl (n_inc 11 1 rfl) (by decide) rfl (fun ls hl => ?_)
  refine lv_goto (tgt := 6) hx hb dX7_digest_28 (by decide) ?_
  refine lv_iload_n hx hb dX7_digest_6 rfl (lv_at hl 0 rfl) ?_
  refine lv_bipush (v := nI 14) hx hb dX7_digest_7 (by decide) ?_
  refine n_icmp_ge (a := 12) (b := 14) (tgt := 31) hx hb (by decide) (by decide) dX7_digest_9 (by decide) (fun h9 => absurd h9 (by decide)) (fun c_13 => ?_)
  refine lv_ldc2 (v := 31) hx hb hown (hts (.constantLong RX7 307 (31)) (by decide +kernel)) dX7_digest_12 ?_
  refine lv_lload_n hx hb dX7_digest_15 rfl (lv_at hl 1 rfl) ?_
  refine lv_lmul hx hb dX7_digest_16 ?_
  refine lv_aload_n hx hb dX7_digest_17 rfl (lv_at hl 2 rfl) ?_
  refine lv_iload_n hx hb dX7_digest_18 rfl (lv_at hl 0 rfl) ?_
  refine k_roV (As := [.int (nI 12)]) (rest := [.long ((31 : Int64) * (((31 : Int64) * (((31 : Int64) * (((31 : Int64) * (((31 : Int64) * (((31 : Int64) * (((31 : Int64) * (((31 : Int64) * (((31 : Int64) * (((31 : Int64) * (((31 : Int64) * (((31 : Int64) * (((31 : Int64) * (3911 : Int64)) + ((pCt S nh 0).toInt64))) + ((pCt S nh 1).toInt64))) + ((pCt S nh 2).toInt64))) + ((nI (tG S tl 20).2.2).toInt64))) + ((pCt S nh 4).toInt64))) + ((pCt S nh 5).toInt64))) + ((pCt S nh 6).toInt64))) + ((pCt S nh 7).toInt64))) + ((pCt S nh 8).toInt64))) + ((pCt S nh 9).toInt64))) + ((pCt S nh 10).toInt64))) + ((pCt S nh 11).toInt64)))]) (wc := oX7 w q qz h t gr u tr oc Sw ++ oX3 T q S ++ oX1 T h qs Sh Hs) (d := 2) (v := pCt S nh 12) cx (c_X7_count l G T A w q qz h t gr u tr oc Sw S Sh qs Hs nh 12 hnh (by omega) (by first | assumption | rfl | omega)) (cwV 1 hts gX7_digest_X7_count rfl rfl rfl (by decide +kernel) ⟨Nat.le_of_ble_eq_true rfl, Nat.le_of_ble_eq_true rfl⟩) (hP.sub (ws' := oX7 w q qz h t gr u tr oc Sw ++ oX3 T q S ++ oX1 T h qs Sh Hs) [0, 1, 2, 3, 4, 5, 6, 7, 8, 9, 10, 11, 12, 13, 27, 28, 29, 30, 31, 32, 33, 34, 35, 36, 37, 38, 39, 40, 41, 42, 43, 44, 45, 46, 47, 48, 49, 50, 51, 52, 53, 54, 55, 56, 57, 58, 59, 60, 61, 62, 63, 64, 65, 66, 67, 68, 69, 70, 71, 72, 73, 74, 75, 76, 77, 78, 79, 80, 81, 82, 83, 84, 85, 86, 87, 88, 89, 90, 91, 92, 93, 94, 95, 96, 97, 98, 99, 100, 101, 102, 103, 104, 105, 106] rfl) hK (hE.kept hS.2.1) (va_recv hK hP (ci := 7) (q0 := 0) rfl rfl) rfl hl.1 rfl (Nat.le_of_ble_eq_true rfl) dX7_digest_19 ⟨Nat.le_of_ble_eq_true rfl, Nat.le_of_ble_eq_true rfl⟩ ?_
  refine lv_i2l (v := (pCt S nh 12).toInt64) hx hb dX7_digest_22 rfl ?_
  refine lv_ladd hx hb dX7_digest_23 ?_
  refine lv_lstore_n (lv' := [(1, .long (((31 : Int64) * (((31 : Int64) * (((31 : Int64) * (((31 : Int64) * (((31 : Int64) * (((31 : Int64) * (((31 : Int64) * (((31 : Int64) * (((31 : Int64) * (((31 : Int64) * (((31 : Int64) * (((31 : Int64) * (((31 : Int64) * (3911 : Int64)) + ((pCt S nh 0).toInt64))) + ((pCt S nh 1).toInt64))) + ((pCt S nh 2).toInt64))) + ((nI (tG S tl 20).2.2).toInt64))) + ((pCt S nh 4).toInt64))) + ((pCt S nh 5).toInt64))) + ((pCt S nh 6).toInt64))) + ((pCt S nh 7).toInt64))) + ((pCt S nh 8).toInt64))) + ((pCt S nh 9).toInt64))) + ((pCt S nh 10).toInt64))) + ((pCt S nh 11).toInt64))) + ((pCt S nh 12).toInt64))), (3, .int (nI 12)), (0, .ref (w 0))]) hx hb dX7_digest_24 rfl hl (by decide) rfl (fun ls hl => ?_)
  refine lv_iinc (v := nI 13) (lv' := [(3, .int (nI 13)), (1, .long (((31 : Int64) * (((31 : Int64) * (((31 : Int64) * (((31 : Int64) * (((31 : Int64) * (((31 : Int64) * (((31 : Int64) * (((31 : Int64) * (((31 : Int64) * (((31 : Int64) * (((31 : Int64) * (((31 : Int64) * (((31 : Int64) * (3911 : Int64)) + ((pCt S nh 0).toInt64))) + ((pCt S nh 1).toInt64))) + ((pCt S nh 2).toInt64))) + ((nI (tG S tl 20).2.2).toInt64))) + ((pCt S nh 4).toInt64))) + ((pCt S nh 5).toInt64))) + ((pCt S nh 6).toInt64))) + ((pCt S nh 7).toInt64))) + ((pCt S nh 8).toInt64))) + ((pCt S nh 9).toInt64))) + ((pCt S nh 10).toInt64))) + ((pCt S nh 11).toInt64))) + ((pCt S nh 12).toInt64))), (0, .ref (w 0))]) hx hb dX7_digest_25 hl (k := 1) rfl (n_inc 12 1 rfl) (by decide) rfl (fun ls hl => ?_)
  refine lv_goto (tgt := 6) hx hb dX7_digest_28 (by decide) ?_
  refine lv_iload_n hx hb dX7_digest_6 rfl (lv_at hl 0 rfl) ?_
  refine lv_bipush (v := nI 14) hx hb dX7_digest_7 (by decide) ?_
  refine n_icmp_ge (a := 13) (b := 14) (tgt := 31) hx hb (by decide) (by decide) dX7_digest_9 (by decide) (fun h9 => absurd h9 (by decide)) (fun c_14 => ?_)
  refine lv_ldc2 (v := 31) hx hb hown (hts (.constantLong RX7 307 (31)) (by decide +kernel)) dX7_digest_12 ?_
  refine lv_lload_n hx hb dX7_digest_15 rfl (lv_at hl 1 rfl) ?_
  refine lv_lmul hx hb dX7_digest_16 ?_
  refine lv_aload_n hx hb dX7_digest_17 rfl (lv_at hl 2 rfl) ?_
  refine lv_iload_n hx hb dX7_digest_18 rfl (lv_at hl 0 rfl) ?_
  refine k_roV (As := [.int (nI 13)]) (rest := [.long ((31 : Int64) * (((31 : Int64) * (((31 : Int64) * (((31 : Int64) * (((31 : Int64) * (((31 : Int64) * (((31 : Int64) * (((31 : Int64) * (((31 : Int64) * (((31 : Int64) * (((31 : Int64) * (((31 : Int64) * (((31 : Int64) * (((31 : Int64) * (3911 : Int64)) + ((pCt S nh 0).toInt64))) + ((pCt S nh 1).toInt64))) + ((pCt S nh 2).toInt64))) + ((nI (tG S tl 20).2.2).toInt64))) + ((pCt S nh 4).toInt64))) + ((pCt S nh 5).toInt64))) + ((pCt S nh 6).toInt64))) + ((pCt S nh 7).toInt64))) + ((pCt S nh 8).toInt64))) + ((pCt S nh 9).toInt64))) + ((pCt S nh 10).toInt64))) + ((pCt S nh 11).toInt64))) + ((pCt S nh 12).toInt64)))]) (wc := oX7 w q qz h t gr u tr oc Sw ++ oX3 T q S ++ oX1 T h qs Sh Hs) (d := 2) (v := pCt S nh 13) cx (c_X7_count l G T A w q qz h t gr u tr oc Sw S Sh qs Hs nh 13 hnh (by omega) (by first | assumption | rfl | omega)) (cwV 1 hts gX7_digest_X7_count rfl rfl rfl (by decide +kernel) ⟨Nat.le_of_ble_eq_true rfl, Nat.le_of_ble_eq_true rfl⟩) (hP.sub (ws' := oX7 w q qz h t gr u tr oc Sw ++ oX3 T q S ++ oX1 T h qs Sh Hs) [0, 1, 2, 3, 4, 5, 6, 7, 8, 9, 10, 11, 12, 13, 27, 28, 29, 30, 31, 32, 33, 34, 35, 36, 37, 38, 39, 40, 41, 42, 43, 44, 45, 46, 47, 48, 49, 50, 51, 52, 53, 54, 55, 56, 57, 58, 59, 60, 61, 62, 63, 64, 65, 66, 67, 68, 69, 70, 71, 72, 73, 74, 75, 76, 77, 78, 79, 80, 81, 82, 83, 84, 85, 86, 87, 88, 89, 90, 91, 92, 93, 94, 95, 96, 97, 98, 99, 100, 101, 102, 103, 104, 105, 106] rfl) hK (hE.kept hS.2.1) (va_recv hK hP (ci := 7) (q0 := 0) rfl rfl) rfl hl.1 rfl (Nat.le_of_ble_eq_true rfl) dX7_digest_19 ⟨Nat.le_of_ble_eq_true rfl, Nat.le_of_ble_eq_true rfl⟩ ?_
  refine lv_i2l (v := (pCt S nh 13).toInt64) hx hb dX7_digest_22 rfl ?_
  refine lv_ladd hx hb dX7_digest_23 ?_
  refine lv_lstore_n (lv' := [(1, .long (((31 : Int64) * (((31 : Int64) * (((31 : Int64) * (((31 : Int64) * (((31 : Int64) * (((31 : Int64) * (((31 : Int64) * (((31 : Int64) * (((31 : Int64) * (((31 : Int64) * (((31 : Int64) * (((31 : Int64) * (((31 : Int64) * (((31 : Int64) * (3911 : Int64)) + ((pCt S nh 0).toInt64))) + ((pCt S nh 1).toInt64))) + ((pCt S nh 2).toInt64))) + ((nI (tG S tl 20).2.2).toInt64))) + ((pCt S nh 4).toInt64))) + ((pCt S nh 5).toInt64))) + ((pCt S nh 6).toInt64))) + ((pCt S nh 7).toInt64))) + ((pCt S nh 8).toInt64))) + ((pCt S nh 9).toInt64))) + ((pCt S nh 10).toInt64))) + ((pCt S nh 11).toInt64))) + ((pCt S nh 12).toInt64))) + ((pCt S nh 13).toInt64))), (3, .int (nI 13)), (0, .ref (w 0))]) hx hb dX7_digest_24 rfl hl (by decide) rfl (fun ls hl => ?_)
  refine lv_iinc (v := nI 14) (lv' := [(3, .int (nI 14)), (1, .long (((31 : Int64) * (((31 : Int64) * (((31 : Int64) * (((31 : Int64) * (((31 : Int64) * (((31 : Int64) * (((31 : Int64) * (((31 : Int64) * (((31 : Int64) * (((31 : Int64) * (((31 : Int64) * (((31 : Int64) * (((31 : Int64) * (((31 : Int64) * (3911 : Int64)) + ((pCt S nh 0).toInt64))) + ((pCt S nh 1).toInt64))) + ((pCt S nh 2).toInt64))) + ((nI (tG S tl 20).2.2).toInt64))) + ((pCt S nh 4).toInt64))) + ((pCt S nh 5).toInt64))) + ((pCt S nh 6).toInt64))) + ((pCt S nh 7).toInt64))) + ((pCt S nh 8).toInt64))) + ((pCt S nh 9).toInt64))) + ((pCt S nh 10).toInt64))) + ((pCt S nh 11).toInt64))) + ((pCt S nh 12).toInt64))) + ((pCt S nh 13).toInt64))), (0, .ref (w 0))]) hx hb dX7_digest_25 hl (k := 1) rfl (n_inc 13 1 rfl) (by decide) rfl (fun ls hl => ?_)
  refine lv_goto (tgt := 6) hx hb dX7_digest_28 (by decide) ?_
  refine lv_iload_n hx hb dX7_digest_6 rfl (lv_at hl 0 rfl) ?_
  refine lv_bipush (v := nI 14) hx hb dX7_digest_7 (by decide) ?_
  refine n_icmp_ge (a := 14) (b := 14) (tgt := 31) hx hb (by decide) (by decide) dX7_digest_9 (by decide) (fun c_15 => ?_) (fun h9 => absurd h9 (by decide))
  have hl : lv_has ls 4 [(3, .int (nI 14)), (1, .long (cD1 S tl nh 14)), (0, .ref (w 0))] := hl
  refine n_iconst hx hb 0 dX7_digest_31 (by decide) ?_
  refine lv_istore_n (lv' := [(3, .int (nI 0)), (1, .long (cD1 S tl nh 14)), (0, .ref (w 0))]) hx hb dX7_digest_32 rfl hl (by decide) rfl (fun ls hl => ?_)
  have L33 : ∀ (n9 k : Nat) (hk1 : k ≤ 20) (hk2 : 20 - k < n9) (x3 : Int32) (x1 : Int64) (B_16 : Nat → Nat → Int32) (hx3 : x3 = nI k) (hx1 : x1 = cD2 S (cD1 S tl nh 14) k) (hB_16 : B_16 = cO2 O S k) (H : Heap) (locs : List Loc) (hP : va_P G vwCl (oC T (w, q, qz, h, qs, t, gr, u, tr, oc) (Sw, S, Z, Sh, Hs, X, Gg, U, gTr K S tl, B_16)) H) (hD : va_D A (oC T (w, q, qz, h, qs, t, gr, u, tr, oc) (Sw, S, Z, Sh, Hs, X, Gg, U, gTr K S tl, B_16))) (hS : va_S A s.heap H locs) (ls : Array Slot) (hl : lv_has ls 4 [(3, .int x3), (1, .long x1), (0, .ref (w 0))]), W p l e (headSpec wsX7_digest (rmD 7 0 0)).room s m args below meth c H locs 0 0 Q0 (F0 m 33 ls []) := by
    intro n9
    induction n9 with
    | zero => intros; omega
    | succ n9 ih33 =>
      intro k hk1 hk2 x3 x1 B_16 hx3 hx1 hB_16 H locs hP hD hS ls hl
      subst hx3 hx1 hB_16
      refine lv_iload_n hx hb dX7_digest_33 rfl (lv_at hl 0 rfl) ?_
      refine lv_bipush (v := nI 20) hx hb dX7_digest_34 (by decide) ?_
      refine n_icmp_ge (a := k) (b := 20) (tgt := 52) hx hb (by omega) (by decide) dX7_digest_36 (by decide) (fun c_17 => ?_) (fun c_18 => ?_)
      · skip
        obtain rfl : k = 20 := (by omega)
        refine n_iconst hx hb 0 dX7_digest_52 (by decide) ?_
        refine lv_istore_n (lv' := [(3, .int (nI 0)), (1, .long (cD2 S (cD1 S tl nh 14) 20)), (0, .ref (w 0))]) hx hb dX7_digest_53 rfl hl (by decide) rfl (fun ls hl => ?_)
        have L54_i_19 : ∀ (n9 k : Nat) (hk1 : k ≤ 6) (hk2 : 6 - k < n9) (x3 : Int32) (x1 : Int64) (B_20 : Nat → Nat → Int32) (hx3 : x3 = nI k) (hx1 : x1 = cD3 S (cD2 S (cD1 S tl nh 14) 20) k) (hB_20 : B_20 = cO3 (cO2 O S 20) S k) (H : Heap) (locs : List Loc) (hP : va_P G vwCl (oC T (w, q, qz, h, qs, t, gr, u, tr, oc) (Sw, S, Z, Sh, Hs, X, Gg, U, gTr K S tl, B_20)) H) (hD : va_D A (oC T (w, q, qz, h, qs, t, gr, u, tr, oc) (Sw, S, Z, Sh, Hs, X, Gg, U, gTr K S tl, B_20))) (hS : va_S A s.heap H locs) (ls : Array Slot) (hl : lv_has ls 4 [(3, .int x3), (1, .long x1), (0, .ref (w 0))]), W p l e (headSpec wsX7_digest (rmD 7 0 0)).room s m args below meth c H locs 0 0 Q0 (F0 m 54 ls []) := by
          intro n9
          induction n9 with
          | zero => intros; omega
          | succ n9 ih54 =>
            intro k hk1 hk2 x3 x1 B_20 hx3 hx1 hB_20 H locs hP hD hS ls hl
            subst hx3 hx1 hB_20
            refine lv_iload_n hx hb dX7_digest_54 rfl (lv_at hl 0 rfl) ?_
            refine lv_bipush (v := nI 6) hx hb dX7_digest_55 (by decide) ?_
            refine n_icmp_ge (a := k) (b := 6) (tgt := 73) hx hb (by omega) (by decide) dX7_digest_57 (by decide) (fun c_21 => ?_) (fun c_22 => ?_)
            · skip
              obtain rfl : k = 6 := (by omega)
              refine n_iconst hx hb 0 dX7_digest_73 (by decide) ?_
              refine lv_istore_n (lv' := [(3, .int (nI 0)), (1, .long (cD3 S (cD2 S (cD1 S tl nh 14) 20) 6)), (0, .ref (w 0))]) hx hb dX7_digest_74 rfl hl (by decide) rfl (fun ls hl => ?_)
              have L75_i_23 : ∀ (n9 k : Nat) (hk1 : k ≤ 6) (hk2 : 6 - k < n9) (x3 : Int32) (x1 : Int64) (hx3 : x3 = nI k) (hx1 : x1 = cD4 S (cD3 S (cD2 S (cD1 S tl nh 14) 20) 6) k) (H : Heap) (locs : List Loc) (hP : va_P G vwCl (oC T (w, q, qz, h, qs, t, gr, u, tr, oc) (Sw, S, Z, Sh, Hs, X, Gg, U, gTr K S tl, cO3 (cO2 O S 20) S 6)) H) (hD : va_D A (oC T (w, q, qz, h, qs, t, gr, u, tr, oc) (Sw, S, Z, Sh, Hs, X, Gg, U, gTr K S tl, cO3 (cO2 O S 20) S 6))) (hS : va_S A s.heap H locs) (ls : Array Slot) (hl : lv_has ls 4 [(3, .int x3), (1, .long x1), (0, .ref (w 0))]), W p l e (headSpec wsX7_digest (rmD 7 0 0)).room s m args below meth c H locs 0 0 Q0 (F0 m 75 ls []) := by
                intro n9
                induction n9 with
                | zero => intros; omega
                | succ n9 ih75 =>
                  intro k hk1 hk2 x3 x1 hx3 hx1 H locs hP hD hS ls hl
                  subst hx3 hx1
                  refine lv_iload_n hx hb dX7_digest_75 rfl (lv_at hl 0 rfl) ?_
                  refine lv_bipush (v := nI 6) hx hb dX7_digest_76 (by decide) ?_
                  refine n_icmp_ge (a := k) (b := 6) (tgt := 100) hx hb (by omega) (by decide) dX7_digest_78 (by decide) (fun c_24 => ?_) (fun c_25 => ?_)
                  · skip
                    obtain rfl : k = 6 := (by omega)
                    refine n_iconst hx hb 0 dX7_digest_100 (by decide) ?_
                    refine lv_istore_n (lv' := [(3, .int (nI 0)), (1, .long (cD4 S (cD3 S (cD2 S (cD1 S tl nh 14) 20) 6) 6)), (0, .ref (w 0))]) hx hb dX7_digest_101 rfl hl (by decide) rfl (fun ls hl => ?_)
                    have L102_i_26 : ∀ (n9 k : Nat) (hk1 : k ≤ 2) (hk2 : 2 - k < n9) (x3 : Int32) (x1 : Int64) (hx3 : x3 = nI k) (hx1 : x1 = cD5 S (cD4 S (cD3 S (cD2 S (cD1 S tl nh 14) 20) 6) 6) k) (H : Heap) (locs : List Loc) (hP : va_P G vwCl (oC T (w, q, qz, h, qs, t, gr, u, tr, oc) (Sw, S, Z, Sh, Hs, X, Gg, U, gTr K S tl, cO3 (cO2 O S 20) S 6)) H) (hD : va_D A (oC T (w, q, qz, h, qs, t, gr, u, tr, oc) (Sw, S, Z, Sh, Hs, X, Gg, U, gTr K S tl, cO3 (cO2 O S 20) S 6))) (hS : va_S A s.heap H locs) (ls : Array Slot) (hl : lv_has ls 4 [(3, .int x3), (1, .long x1), (0, .ref (w 0))]), W p l e (headSpec wsX7_digest (rmD 7 0 0)).room s m args below meth c H locs 0 0 Q0 (F0 m 102 ls []) := by
                      intro n9
                      induction n9 with
                      | zero => intros; omega
                      | succ n9 ih102 =>
                        intro k hk1 hk2 x3 x1 hx3 hx1 H locs hP hD hS ls hl
                        subst hx3 hx1
                        refine lv_iload_n hx hb dX7_digest_102 rfl (lv_at hl 0 rfl) ?_
                        refine n_iconst hx hb 2 dX7_digest_103 (by decide) ?_
                        refine n_icmp_ge (a := k) (b := 2) (tgt := 126) hx hb (by omega) (by decide) dX7_digest_104 (by decide) (fun c_27 => ?_) (fun c_28 => ?_)
                        · skip
                          obtain rfl : k = 2 := (by omega)
                          refine lv_ldc2 (v := 31) hx hb hown (hts (.constantLong RX7 307 (31)) (by decide +kernel)) dX7_digest_126 ?_
                          refine lv_lload_n hx hb dX7_digest_129 rfl (lv_at hl 1 rfl) ?_
                          refine lv_lmul hx hb dX7_digest_130 ?_
                          refine lv_aload_n hx hb dX7_digest_131 rfl (lv_at hl 2 rfl) ?_
                          refine k_rdV (As := []) (rest := [.long ((31 : Int64) * (cD5 S (cD4 S (cD3 S (cD2 S (cD1 S tl nh 14) 20) 6) 6) 2))]) (wc := (oC T (w, q, qz, h, qs, t, gr, u, tr, oc) (Sw, S, Z, Sh, Hs, X, Gg, U, gTr K S tl, cO3 (cO2 O S 20) S 6))) (wr := []) (w1 := (oC T (w, q, qz, h, qs, t, gr, u, tr, oc) (Sw, S, Z, Sh, Hs, X, Gg, U, gTr K S tl, cO3 (cO2 O S 20) S 6))) (d := 1) (mc := 0) (ms := 0) (v := cSh S) cx (w_X7_understoodShare l G T H.size w q qz h qs t gr u tr oc Sw S Z Sh Hs X Gg U (gTr K S tl) (cO3 (cO2 O S 20) S 6)  ) (cwV 0 hts gX7_digest_X7_understoodShare rfl rfl rfl (by decide +kernel) ⟨Nat.le_of_ble_eq_true rfl, Nat.le_of_ble_eq_true rfl⟩) (kN_full hP hD hS hA hE hK) (va_recv hK hP (ci := 7) (q0 := 0) rfl rfl) rfl hl.1 rfl (Nat.le_of_ble_eq_true rfl) dX7_digest_132 ⟨Nat.le_of_ble_eq_true rfl, Nat.le_of_ble_eq_true rfl⟩ (fun H locs hP hD hS hz => ?_)
                          have hP : va_P G vwCl (oC T (w, q, qz, h, qs, t, gr, u, tr, oc) (Sw, S, Z, Sh, Hs, X, Gg, U, gTr K S tl, cO3 (cO2 O S 20) S 6)) H := hP
                          have hD : va_D A (oC T (w, q, qz, h, qs, t, gr, u, tr, oc) (Sw, S, Z, Sh, Hs, X, Gg, U, gTr K S tl, cO3 (cO2 O S 20) S 6)) := hD
                          refine k_rlS0 (As := [.double (cSh S)]) (rest := [.long ((31 : Int64) * (cD5 S (cD4 S (cD3 S (cD2 S (cD1 S tl nh 14) 20) 6) 6) 2))]) (d := 0) (v := (cSh S).toInt64) cx (c_X7_bitsOfShare l G T H.size (cSh S) hbs) (va_cwS 1 hts gX7_digest_X7_bitsOfShare rfl rfl rfl (by decide +kernel) ⟨Nat.le_of_ble_eq_true rfl, Nat.le_of_ble_eq_true rfl⟩) hP hD hS hA hE hK rfl hl.1 rfl (Nat.le_of_ble_eq_true rfl) dX7_digest_135 ⟨Nat.le_of_ble_eq_true rfl, Nat.le_of_ble_eq_true rfl⟩ (fun H locs hP hD hS hz => ?_)
                          refine lv_ladd hx hb dX7_digest_138 ?_
                          refine lv_lstore_n (lv' := [(1, .long (((31 : Int64) * (cD5 S (cD4 S (cD3 S (cD2 S (cD1 S tl nh 14) 20) 6) 6) 2)) + ((cSh S).toInt64))), (3, .int (nI 2)), (0, .ref (w 0))]) hx hb dX7_digest_139 rfl hl (by decide) rfl (fun ls hl => ?_)
                          refine lv_aload_n hx hb dX7_digest_140 rfl (lv_at hl 2 rfl) ?_
                          refine lv_lload_n hx hb dX7_digest_141 rfl (lv_at hl 0 rfl) ?_
                          refine k_rlV (As := [.long (((31 : Int64) * (cD5 S (cD4 S (cD3 S (cD2 S (cD1 S tl nh 14) 20) 6) 6) 2)) + ((cSh S).toInt64))]) (rest := []) (wc := (oC T (w, q, qz, h, qs, t, gr, u, tr, oc) (Sw, S, Z, Sh, Hs, X, Gg, U, gTr K S tl, cO3 (cO2 O S 20) S 6))) (wr := []) (w1 := (oC T (w, q, qz, h, qs, t, gr, u, tr, oc) (Sw, S, Z, Sh, Hs, X, Gg, U, gTr K S tl, cO3 (cO2 O S 20) S 6))) (d := 1) (mc := 0) (ms := 0) (v := cTx cd n (((31 : Int64) * (cD5 S (cD4 S (cD3 S (cD2 S (cD1 S tl nh 14) 20) 6) 6) 2)) + ((cSh S).toInt64)) n) cx (w_X7_withText l G T H.size w q qz h qs t gr u tr oc Sw S Z Sh Hs X Gg U (gTr K S tl) (cO3 (cO2 O S 20) S 6) n cd (((31 : Int64) * (cD5 S (cD4 S (cD3 S (cD2 S (cD1 S tl nh 14) 20) 6) 6) 2)) + ((cSh S).toInt64)) hlen hn60 hcd hc127) (cwV 1 hts gX7_digest_X7_withText rfl rfl rfl (by decide +kernel) ⟨Nat.le_of_ble_eq_true rfl, Nat.le_of_ble_eq_true rfl⟩) (kN_full hP hD hS hA hE hK) (va_recv hK hP (ci := 7) (q0 := 0) rfl rfl) rfl hl.1 rfl (Nat.le_of_ble_eq_true rfl) dX7_digest_142 ⟨Nat.le_of_ble_eq_true rfl, Nat.le_of_ble_eq_true rfl⟩ (fun H locs hP hD hS hz => ?_)
                          have hP : va_P G vwCl (oC T (w, q, qz, h, qs, t, gr, u, tr, oc) (Sw, S, Z, Sh, Hs, X, Gg, U, gTr K S tl, cO3 (cO2 O S 20) S 6)) H := hP
                          have hD : va_D A (oC T (w, q, qz, h, qs, t, gr, u, tr, oc) (Sw, S, Z, Sh, Hs, X, Gg, U, gTr K S tl, cO3 (cO2 O S 20) S 6)) := hD
                          subst hQ
                          have hP9 : va_P G vwCl (oC T (w, q, qz, h, qs, t, gr, u, tr, oc) (Sw, S, Z, Sh, Hs, X, Gg, U, gTr K S tl, cO3 (cO2 O S 20) S 6)) H := hP
                          have hD9 : va_D A (oC T (w, q, qz, h, qs, t, gr, u, tr, oc) (Sw, S, Z, Sh, Hs, X, Gg, U, gTr K S tl, cO3 (cO2 O S 20) S 6)) := hD
                          exact e_rwl hx hb hr hlocks hS rfl hP9 hD9 dX7_digest_145
                        · skip
                          refine lv_ldc2 (v := 31) hx hb hown (hts (.constantLong RX7 307 (31)) (by decide +kernel)) dX7_digest_107 ?_
                          refine lv_lload_n hx hb dX7_digest_110 rfl (lv_at hl 1 rfl) ?_
                          refine lv_lmul hx hb dX7_digest_111 ?_
                          refine lv_aload_n hx hb dX7_digest_112 rfl (lv_at hl 2 rfl) ?_
                          refine lv_iload_n hx hb dX7_digest_113 rfl (lv_at hl 0 rfl) ?_
                          refine k_roV (As := [.int (nI k)]) (rest := [.long ((31 : Int64) * (cD5 S (cD4 S (cD3 S (cD2 S (cD1 S tl nh 14) 20) 6) 6) k))]) (wc := oX7 w q qz h t gr u tr oc Sw ++ oX3 T q S) (d := 0) (v := (S 16) k) cx (c_X7_stopped l G T A w q qz h t gr u tr oc Sw S k (by omega)) (cwV 1 hts gX7_digest_X7_stopped rfl rfl rfl (by decide +kernel) ⟨Nat.le_of_ble_eq_true rfl, Nat.le_of_ble_eq_true rfl⟩) (hP.sub (ws' := oX7 w q qz h t gr u tr oc Sw ++ oX3 T q S) [0, 1, 2, 3, 4, 5, 6, 7, 8, 9, 10, 11, 12, 13] rfl) hK (hE.kept hS.2.1) (va_recv hK hP (ci := 7) (q0 := 0) rfl rfl) rfl hl.1 rfl (Nat.le_of_ble_eq_true rfl) dX7_digest_114 ⟨Nat.le_of_ble_eq_true rfl, Nat.le_of_ble_eq_true rfl⟩ ?_
                          refine lv_i2l (v := ((S 16) k).toInt64) hx hb dX7_digest_117 rfl ?_
                          refine lv_ladd hx hb dX7_digest_118 ?_
                          refine lv_lstore_n (lv' := [(1, .long (((31 : Int64) * (cD5 S (cD4 S (cD3 S (cD2 S (cD1 S tl nh 14) 20) 6) 6) k)) + (((S 16) k).toInt64))), (3, .int (nI k)), (0, .ref (w 0))]) hx hb dX7_digest_119 rfl hl (by decide) rfl (fun ls hl => ?_)
                          refine lv_iinc (v := nI (k + 1)) (lv' := [(3, .int (nI (k + 1))), (1, .long (((31 : Int64) * (cD5 S (cD4 S (cD3 S (cD2 S (cD1 S tl nh 14) 20) 6) 6) k)) + (((S 16) k).toInt64))), (0, .ref (w 0))]) hx hb dX7_digest_120 hl (k := 1) rfl (n_inc k 1 rfl) (by decide) rfl (fun ls hl => ?_)
                          refine lv_goto (tgt := 102) hx hb dX7_digest_123 (by decide) ?_
                          have e_29 : (((31 : Int64) * (cD5 S (cD4 S (cD3 S (cD2 S (cD1 S tl nh 14) 20) 6) 6) k)) + (((S 16) k).toInt64)) = cD5 S (cD4 S (cD3 S (cD2 S (cD1 S tl nh 14) 20) 6) 6) (k + 1) := rfl
                          exact ih102 (k + 1) (by omega) (by omega) _ _ rfl e_29 _ _ hP hD hS _ (lv_sub hl [0, 1, 2] rfl)
                    exact L102_i_26 (2 + 1) 0 (by omega) (by omega) _ _ rfl rfl _ _ hP hD hS _ (lv_sub hl [0, 1, 2] rfl)
                  · skip
                    refine lv_ldc2 (v := 31) hx hb hown (hts (.constantLong RX7 307 (31)) (by decide +kernel)) dX7_digest_81 ?_
                    refine lv_lload_n hx hb dX7_digest_84 rfl (lv_at hl 1 rfl) ?_
                    refine lv_lmul hx hb dX7_digest_85 ?_
                    refine lv_aload_n hx hb dX7_digest_86 rfl (lv_at hl 2 rfl) ?_
                    refine lv_iload_n hx hb dX7_digest_87 rfl (lv_at hl 0 rfl) ?_
                    refine k_roV (As := [.int (nI k)]) (rest := [.long ((31 : Int64) * (cD4 S (cD3 S (cD2 S (cD1 S tl nh 14) 20) 6) k))]) (wc := oX7 w q qz h t gr u tr oc Sw ++ oX3 T q S) (d := 0) (v := (S 15) k) cx (c_X7_latest l G T A w q qz h t gr u tr oc Sw S k (by omega)) (cwV 1 hts gX7_digest_X7_latest rfl rfl rfl (by decide +kernel) ⟨Nat.le_of_ble_eq_true rfl, Nat.le_of_ble_eq_true rfl⟩) (hP.sub (ws' := oX7 w q qz h t gr u tr oc Sw ++ oX3 T q S) [0, 1, 2, 3, 4, 5, 6, 7, 8, 9, 10, 11, 12, 13] rfl) hK (hE.kept hS.2.1) (va_recv hK hP (ci := 7) (q0 := 0) rfl rfl) rfl hl.1 rfl (Nat.le_of_ble_eq_true rfl) dX7_digest_88 ⟨Nat.le_of_ble_eq_true rfl, Nat.le_of_ble_eq_true rfl⟩ ?_
                    refine lv_i2l (v := ((S 15) k).toInt64) hx hb dX7_digest_91 rfl ?_
                    refine lv_ladd hx hb dX7_digest_92 ?_
                    refine lv_lstore_n (lv' := [(1, .long (((31 : Int64) * (cD4 S (cD3 S (cD2 S (cD1 S tl nh 14) 20) 6) k)) + (((S 15) k).toInt64))), (3, .int (nI k)), (0, .ref (w 0))]) hx hb dX7_digest_93 rfl hl (by decide) rfl (fun ls hl => ?_)
                    refine lv_iinc (v := nI (k + 1)) (lv' := [(3, .int (nI (k + 1))), (1, .long (((31 : Int64) * (cD4 S (cD3 S (cD2 S (cD1 S tl nh 14) 20) 6) k)) + (((S 15) k).toInt64))), (0, .ref (w 0))]) hx hb dX7_digest_94 hl (k := 1) rfl (n_inc k 1 rfl) (by decide) rfl (fun ls hl => ?_)
                    refine lv_goto (tgt := 75) hx hb dX7_digest_97 (by decide) ?_
                    have e_30 : (((31 : Int64) * (cD4 S (cD3 S (cD2 S (cD1 S tl nh 14) 20) 6) k)) + (((S 15) k).toInt64)) = cD4 S (cD3 S (cD2 S (cD1 S tl nh 14) 20) 6) (k + 1) := rfl
                    exact ih75 (k + 1) (by omega) (by omega) _ _ rfl e_30 _ _ hP hD hS _ (lv_sub hl [0, 1, 2] rfl)
              exact L75_i_23 (6 + 1) 0 (by omega) (by omega) _ _ rfl rfl _ _ hP hD hS _ (lv_sub hl [0, 1, 2] rfl)
            · skip
              refine lv_aload_n hx hb dX7_digest_60 rfl (lv_at hl 2 rfl) ?_
              refine lv_lload_n hx hb dX7_digest_61 rfl (lv_at hl 1 rfl) ?_
              refine lv_iload_n hx hb dX7_digest_62 rfl (lv_at hl 0 rfl) ?_
              refine k_rlV (As := [.long (cD3 S (cD2 S (cD1 S tl nh 14) 20) k), .int (nI k)]) (rest := []) (wc := (oC T (w, q, qz, h, qs, t, gr, u, tr, oc) (Sw, S, Z, Sh, Hs, X, Gg, U, gTr K S tl, cO3 (cO2 O S 20) S k))) (wr := []) (w1 := (oC T (w, q, qz, h, qs, t, gr, u, tr, oc) (Sw, S, Z, Sh, Hs, X, Gg, U, gTr K S tl, cRO (cO3 (cO2 O S 20) S k) S k 4))) (d := 5) (mc := 0) (ms := 0) (v := cR2 S k (cD3 S (cD2 S (cD1 S tl nh 14) 20) k) 4) cx (w_X7_withRoom l G T H.size w q qz h qs t gr u tr oc Sw S Z Sh Hs X Gg U (gTr K S tl) (cO3 (cO2 O S 20) S k) (cD3 S (cD2 S (cD1 S tl nh 14) 20) k) k (by omega)) (cwV 2 hts gX7_digest_X7_withRoom rfl rfl rfl (by decide +kernel) ⟨Nat.le_of_ble_eq_true rfl, Nat.le_of_ble_eq_true rfl⟩) (kN_full hP hD hS hA hE hK) (va_recv hK hP (ci := 7) (q0 := 0) rfl rfl) rfl hl.1 rfl (Nat.le_of_ble_eq_true rfl) dX7_digest_63 ⟨Nat.le_of_ble_eq_true rfl, Nat.le_of_ble_eq_true rfl⟩ (fun H locs hP hD hS hz => ?_)
              have hP : va_P G vwCl (oC T (w, q, qz, h, qs, t, gr, u, tr, oc) (Sw, S, Z, Sh, Hs, X, Gg, U, gTr K S tl, cRO (cO3 (cO2 O S 20) S k) S k 4)) H := hP
              have hD : va_D A (oC T (w, q, qz, h, qs, t, gr, u, tr, oc) (Sw, S, Z, Sh, Hs, X, Gg, U, gTr K S tl, cRO (cO3 (cO2 O S 20) S k) S k 4)) := hD
              refine lv_lstore_n (lv' := [(1, .long (cR2 S k (cD3 S (cD2 S (cD1 S tl nh 14) 20) k) 4)), (3, .int (nI k)), (0, .ref (w 0))]) hx hb dX7_digest_66 rfl hl (by decide) rfl (fun ls hl => ?_)
              refine lv_iinc (v := nI (k + 1)) (lv' := [(3, .int (nI (k + 1))), (1, .long (cR2 S k (cD3 S (cD2 S (cD1 S tl nh 14) 20) k) 4)), (0, .ref (w 0))]) hx hb dX7_digest_67 hl (k := 1) rfl (n_inc k 1 rfl) (by decide) rfl (fun ls hl => ?_)
              refine lv_goto (tgt := 54) hx hb dX7_digest_70 (by decide) ?_
              have e_31 : (cR2 S k (cD3 S (cD2 S (cD1 S tl nh 14) 20) k) 4) = cD3 S (cD2 S (cD1 S tl nh 14) 20) (k + 1) := rfl
              have e_32 : (cRO (cO3 (cO2 O S 20) S k) S k 4) = cO3 (cO2 O S 20) S (k + 1) := rfl
              exact ih54 (k + 1) (by omega) (by omega) _ _ _ rfl e_31 e_32 _ _ hP hD hS _ (lv_sub hl [0, 1, 2] rfl)
        exact L54_i_19 (6 + 1) 0 (by omega) (by omega) _ _ _ rfl rfl rfl _ _ hP hD hS _ (lv_sub hl [0, 1, 2] rfl)
      · skip
        refine lv_aload_n hx hb dX7_digest_39 rfl (lv_at hl 2 rfl) ?_
        refine lv_lload_n hx hb dX7_digest_40 rfl (lv_at hl 1 rfl) ?_
        refine lv_iload_n hx hb dX7_digest_41 rfl (lv_at hl 0 rfl) ?_
        refine k_rlV (As := [.long (cD2 S (cD1 S tl nh 14) k), .int (nI k)]) (rest := []) (wc := (oC T (w, q, qz, h, qs, t, gr, u, tr, oc) (Sw, S, Z, Sh, Hs, X, Gg, U, gTr K S tl, cO2 O S k))) (wr := []) (w1 := (oC T (w, q, qz, h, qs, t, gr, u, tr, oc) (Sw, S, Z, Sh, Hs, X, Gg, U, gTr K S tl, pBrO (cO2 O S k) S k 6))) (d := 5) (mc := 0) (ms := 0) (v := cMx S k (cD2 S (cD1 S tl nh 14) k)) cx (w_X7_withMessage l G T H.size w q qz h qs t gr u tr oc Sw S Z Sh Hs X Gg U (gTr K S tl) (cO2 O S k) (cD2 S (cD1 S tl nh 14) k) k (by omega)) (cwV 2 hts gX7_digest_X7_withMessage rfl rfl rfl (by decide +kernel) ⟨Nat.le_of_ble_eq_true rfl, Nat.le_of_ble_eq_true rfl⟩) (kN_full hP hD hS hA hE hK) (va_recv hK hP (ci := 7) (q0 := 0) rfl rfl) rfl hl.1 rfl (Nat.le_of_ble_eq_true rfl) dX7_digest_42 ⟨Nat.le_of_ble_eq_true rfl, Nat.le_of_ble_eq_true rfl⟩ (fun H locs hP hD hS hz => ?_)
        have hP : va_P G vwCl (oC T (w, q, qz, h, qs, t, gr, u, tr, oc) (Sw, S, Z, Sh, Hs, X, Gg, U, gTr K S tl, pBrO (cO2 O S k) S k 6)) H := hP
        have hD : va_D A (oC T (w, q, qz, h, qs, t, gr, u, tr, oc) (Sw, S, Z, Sh, Hs, X, Gg, U, gTr K S tl, pBrO (cO2 O S k) S k 6)) := hD
        refine lv_lstore_n (lv' := [(1, .long (cMx S k (cD2 S (cD1 S tl nh 14) k))), (3, .int (nI k)), (0, .ref (w 0))]) hx hb dX7_digest_45 rfl hl (by decide) rfl (fun ls hl => ?_)
        refine lv_iinc (v := nI (k + 1)) (lv' := [(3, .int (nI (k + 1))), (1, .long (cMx S k (cD2 S (cD1 S tl nh 14) k))), (0, .ref (w 0))]) hx hb dX7_digest_46 hl (k := 1) rfl (n_inc k 1 rfl) (by decide) rfl (fun ls hl => ?_)
        refine lv_goto (tgt := 33) hx hb dX7_digest_49 (by decide) ?_
        have e_33 : (cMx S k (cD2 S (cD1 S tl nh 14) k)) = cD2 S (cD1 S tl nh 14) (k + 1) := rfl
        have e_34 : (pBrO (cO2 O S k) S k 6) = cO2 O S (k + 1) := rfl
        exact ih33 (k + 1) (by omega) (by omega) _ _ _ rfl e_33 e_34 _ _ hP hD hS _ (lv_sub hl [0, 1, 2] rfl)
  exact L33 (20 + 1) 0 (by omega) (by omega) _ _ _ rfl rfl rfl _ _ hP hD hS _ (lv_sub hl [0, 1, 2] rfl)
