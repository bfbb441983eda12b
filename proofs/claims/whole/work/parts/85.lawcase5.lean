/-! the law's cases 24 to 29 (printed by wip/whole/mklc.py) -/
section LC
variable {p : Program} {l : Launch} {e : Env} {s : State} {m : MethodId} {below : List Frame} {meth : Method} {c : Code} {b L : Nat} {xs : Nat → Int32} {G : va_G} {T : Nat → ClassId} {a : CA} {ao : Nat} {q8 : Nat → Nat} {Q : State → Prop}
set_option maxHeartbeats 8000000 in
set_option maxRecDepth 100000 in
theorem lc_keyOf (E : lwE l p s m c b L xs G T) {i B cells slots : Nat} (hi : i + 3 < L) (hL : L ≤ 2048) (hB : B + 100 < 2 ^ 27) (hcs : cells + 1 ≤ 601024 ∧ slots + 6 ≤ 7293033) {H : Heap} {locs : List Loc} {ls : Array Slot} (hW : lwS s G T a ao q8 B H locs) (hl : lv_has ls 9 (lwV b a ao q8 i)) (kk : ∀ (H : Heap) (locs : List Loc) (ls : Array Slot), lwS s G T a ao q8 (B + 100) H locs → lv_has ls 9 (lwV b a ao q8 i) → W p l e room_1 s m #[Value.ref b] below meth c H locs (cells + 1) (slots + 6) Q (F0 m 1680 ls [])) : W p l e room_1 s m #[Value.ref b] below meth c H locs cells slots Q (F0 m 1377 ls []) := by
  obtain ⟨hx, hb, hml, hown, hts, hX, hbl, hst, hK, hE, hgC, hgN⟩ := E
  obtain ⟨f, c9, Z, g, hP, hD, hS, hJ⟩ := hW
  have cx : CallFix p m c cL_law 9 s #[Value.ref b] wsLw RL := ⟨hx, hb, hml, hown, hts⟩
  have hA : ∀ q : Nat, s.heap.size ≤ q → (fun q : Nat => s.heap.size ≤ q) q := fun _ h => h
  have hbA : ¬ (fun q : Nat => s.heap.size ≤ q) b := Nat.not_le.mpr hbl
  have hl : lv_has ls 9 [(0, .ref b), (1, .ref (a.1 0)), (2, .ref (q8 0)), (3, .ref ao), (4, .int (nI i))] := hl
  obtain ⟨d, v, bb, f', c', Z', hd, hL1, hX1, hth, han, hJ1⟩ := st_keyOf l hst G T a ao q8 hB f c9 Z  hJ
  refine lv_aload_n hx hb dL_law_1377 rfl (lv_at hl 1 rfl) ?_
  refine lv_aload_n hx hb dL_law_1378 rfl (lv_at hl 3 rfl) ?_
  refine k_lxS (As := [.ref (a.1 0), .ref ao]) (rest := []) (wc := lwW T ao f a c9 q8 Z g) (wr := []) (w1 := lwW T ao f' a c' q8 Z g) cx (RWx.fr (hL1 H.size) (Fr.tail (wO T ao f ++ oC T a c9) (wO T ao f' ++ oC T a c') (oX8 T q8 Z g))) (vx_cwSW 2 hts hL_L_keyOf rfl rfl rfl (by decide +kernel) ⟨by show d + 1 ≤ 17; omega, by show 8 + (_ + 11) + 40 * d ≤ 664; omega⟩) (kN_full hP hD hS hA hE hK) hgC hgN rfl hl.1 rfl (Nat.le_of_ble_eq_true rfl) dL_law_1379 hcs (fun H locs hP hD hS hz => ?_)
  have hP : va_P G vwCl (lwW T ao f' a c' q8 Z g) H := hP
  have hD : va_D (fun q : Nat => s.heap.size ≤ q) (lwW T ao f' a c' q8 Z g) := hD
  refine lv_istore (lv' := [(5, .int v), (0, .ref b), (1, .ref (a.1 0)), (2, .ref (q8 0)), (3, .ref ao), (4, .int (nI i))]) hx hb dL_law_1382 hl (by decide) rfl (fun ls hl => ?_)
  refine lv_aload_n hx hb dL_law_1384 rfl (lv_at hl 3 rfl) ?_
  have hP8 := va_Ptl hP
  refine k_rwV (As := []) (rest := []) (wc := lwW T ao f' a c' q8 Z g) (wr := []) (w1 := lwW T ao f' a c' q8 Z' g) (mc := 0) (ms := 0) cx (RWi.fr (hX1 H.size g) (Fr.head (wO T ao f' ++ oC T a c') (oX8 T q8 Z g) (oX8 T q8 Z' g))) (cwV 0 hts hL_X8_keyOf rfl rfl rfl (by decide +kernel) ⟨Nat.le_of_ble_eq_true rfl, Nat.le_of_ble_eq_true rfl⟩) (kN_full hP hD hS hA hE hK) (va_recv hK hP8 (ci := 8) (q0 := 0) rfl rfl) rfl hl.1 rfl (Nat.le_of_ble_eq_true rfl) dL_law_1385 ⟨by show cells + 1 + 0 ≤ 601024; omega, by show slots + 6 + 0 ≤ 7293033; omega⟩ (fun H locs hP hD hS hz => ?_)
  have hP : va_P G vwCl (lwW T ao f' a c' q8 Z' g) H := hP
  have hD : va_D (fun q : Nat => s.heap.size ≤ q) (lwW T ao f' a c' q8 Z' g) := hD
  refine lv_istore (lv' := [(6, .int bb), (5, .int v), (0, .ref b), (1, .ref (a.1 0)), (2, .ref (q8 0)), (3, .ref ao), (4, .int (nI i))]) hx hb dL_law_1388 hl (by decide) rfl (fun ls hl => ?_)
  refine lv_aload_n hx hb dL_law_1390 rfl (lv_at hl 4 rfl) ?_
  have hP8 := va_Ptl hP
  refine k_roV (As := []) (rest := []) (wc := oX8 T q8 Z' g) (d := 0) (v := Z' 0 0) cx (c_X8_thrown l G T (fun q : Nat => s.heap.size ≤ q) q8 Z' g) (cwV 0 hts hL_X8_thrown rfl rfl rfl (by decide +kernel) ⟨Nat.le_of_ble_eq_true rfl, Nat.le_of_ble_eq_true rfl⟩) hP8 hK (hE.kept hS.2.1) (va_recv hK hP8 (ci := 8) (q0 := 0) rfl rfl) rfl hl.1 rfl (Nat.le_of_ble_eq_true rfl) dL_law_1391 ⟨by show cells + 1 + 0 ≤ 601024; omega, by show slots + 6 + 0 ≤ 7293033; omega⟩ ?_
  refine lv_iload hx hb dL_law_1394 (lv_at hl 1 rfl) ?_
  refine lv_icmp_eq (tgt := 1401) hx hb dL_law_1396 (by decide) (fun _ => ?_) (fun h9 => absurd hth h9)
  refine lv_iload hx hb dL_law_1401 (lv_at hl 1 rfl) ?_
  refine lv_if_ne (tgt := 1418) hx hb dL_law_1403 (by decide) (fun _ => ?_) (fun h9 => ?_)
  · refine lv_goto (tgt := 1680) hx hb dL_law_1418 (by decide) ?_
    exact kk _ _ _ ⟨f', c', Z', g, hP, hD, hS, hJ1⟩ (lv_sub hl [2, 3, 4, 5, 6] rfl)
  have e9 : f' (nI 0).toNatClampNeg = bb.toInt64 := by rw [nI_clamp (by decide)]; exact han (h9.trans nI_0.symm)
  refine lv_aload_n hx hb dL_law_1406 rfl (lv_at hl 5 rfl) ?_
  refine n_iconst hx hb 0 dL_law_1407 (by decide) ?_
  refine va_lald hx hb hK hP 0 3 rfl rfl (vp_in_nI (show 0 < 1 by decide) (by decide)) dL_law_1408 ?_
  refine lv_iload hx hb dL_law_1409 (lv_at hl 0 rfl) ?_
  refine lv_i2l (v := bb.toInt64) hx hb dL_law_1411 rfl ?_
  refine W.lcmp hx hb dL_law_1412 ?_
  refine lv_if_eq (tgt := 1418) hx hb dL_law_1413 (by decide) (fun _ => ?_) (fun h9 => absurd (by rw [e9]; exact lg_self _) h9)
  refine lv_goto (tgt := 1680) hx hb dL_law_1418 (by decide) ?_
  exact kk _ _ _ ⟨f', c', Z', g, hP, hD, hS, hJ1⟩ (lv_sub hl [2, 3, 4, 5, 6] rfl)
set_option maxHeartbeats 8000000 in
set_option maxRecDepth 100000 in
theorem lc_whyNot (E : lwE l p s m c b L xs G T) {i B cells slots : Nat} (hi : i + 3 < L) (hL : L ≤ 2048) (hB : B + 100 < 2 ^ 27) (hcs : cells + 1 ≤ 601024 ∧ slots + 6 ≤ 7293033) {H : Heap} {locs : List Loc} {ls : Array Slot} (hW : lwS s G T a ao q8 B H locs) (hl : lv_has ls 9 (lwV b a ao q8 i)) (kk : ∀ (H : Heap) (locs : List Loc) (ls : Array Slot), lwS s G T a ao q8 (B + 100) H locs → lv_has ls 9 (lwV b a ao q8 i) → W p l e room_1 s m #[Value.ref b] below meth c H locs (cells + 1) (slots + 6) Q (F0 m 1680 ls [])) : W p l e room_1 s m #[Value.ref b] below meth c H locs cells slots Q (F0 m 1421 ls []) := by
  obtain ⟨hx, hb, hml, hown, hts, hX, hbl, hst, hK, hE, hgC, hgN⟩ := E
  obtain ⟨f, c9, Z, g, hP, hD, hS, hJ⟩ := hW
  have cx : CallFix p m c cL_law 9 s #[Value.ref b] wsLw RL := ⟨hx, hb, hml, hown, hts⟩
  have hA : ∀ q : Nat, s.heap.size ≤ q → (fun q : Nat => s.heap.size ≤ q) q := fun _ h => h
  have hbA : ¬ (fun q : Nat => s.heap.size ≤ q) b := Nat.not_le.mpr hbl
  have hl : lv_has ls 9 [(0, .ref b), (1, .ref (a.1 0)), (2, .ref (q8 0)), (3, .ref ao), (4, .int (nI i))] := hl
  obtain ⟨d, v, bb, f', c', Z', hd, hL1, hX1, hth, han, hJ1⟩ := st_whyNot l hst G T a ao q8 hB f c9 Z (xs (i + 1)) (xs (i + 2)) hJ
  refine lv_aload_n hx hb dL_law_1421 rfl (lv_at hl 1 rfl) ?_
  refine lv_aload_n hx hb dL_law_1422 rfl (lv_at hl 0 rfl) ?_
  refine lv_iload hx hb dL_law_1423 (lv_at hl 4 rfl) ?_
  refine n_iconst hx hb 1 dL_law_1425 (by decide) ?_
  refine n_iadd hx hb dL_law_1426 ?_
  refine va_sld hx hb hX hbl hbA hS (vp_in_nI (show i + 1 < L by omega) (by omega)) dL_law_1427 ?_
  refine n_top (y := xs (i + 1)) (by rw [nI_clamp (by omega)]) ?_
  refine lv_aload_n hx hb dL_law_1428 rfl (lv_at hl 0 rfl) ?_
  refine lv_iload hx hb dL_law_1429 (lv_at hl 4 rfl) ?_
  refine n_iconst hx hb 2 dL_law_1431 (by decide) ?_
  refine n_iadd hx hb dL_law_1432 ?_
  refine va_sld hx hb hX hbl hbA hS (vp_in_nI (show i + 2 < L by omega) (by omega)) dL_law_1433 ?_
  refine n_top (y := xs (i + 2)) (by rw [nI_clamp (by omega)]) ?_
  refine lv_aload_n hx hb dL_law_1434 rfl (lv_at hl 3 rfl) ?_
  refine k_lxS (As := [.ref (a.1 0), .int (xs (i + 1)), .int (xs (i + 2)), .ref ao]) (rest := []) (wc := lwW T ao f a c9 q8 Z g) (wr := []) (w1 := lwW T ao f' a c' q8 Z g) cx (RWx.fr (hL1 H.size) (Fr.tail (wO T ao f ++ oC T a c9) (wO T ao f' ++ oC T a c') (oX8 T q8 Z g))) (vx_cwSW 4 hts hL_L_whyNot rfl rfl rfl (by decide +kernel) ⟨by show d + 1 ≤ 17; omega, by show 8 + (_ + 11) + 40 * d ≤ 664; omega⟩) (kN_full hP hD hS hA hE hK) hgC hgN rfl hl.1 rfl (Nat.le_of_ble_eq_true rfl) dL_law_1435 hcs (fun H locs hP hD hS hz => ?_)
  have hP : va_P G vwCl (lwW T ao f' a c' q8 Z g) H := hP
  have hD : va_D (fun q : Nat => s.heap.size ≤ q) (lwW T ao f' a c' q8 Z g) := hD
  refine lv_istore (lv' := [(5, .int v), (0, .ref b), (1, .ref (a.1 0)), (2, .ref (q8 0)), (3, .ref ao), (4, .int (nI i))]) hx hb dL_law_1438 hl (by decide) rfl (fun ls hl => ?_)
  refine lv_aload_n hx hb dL_law_1440 rfl (lv_at hl 3 rfl) ?_
  refine lv_aload_n hx hb dL_law_1441 rfl (lv_at hl 1 rfl) ?_
  refine lv_iload hx hb dL_law_1442 (lv_at hl 5 rfl) ?_
  refine n_iconst hx hb 1 dL_law_1444 (by decide) ?_
  refine n_iadd hx hb dL_law_1445 ?_
  refine va_sld hx hb hX hbl hbA hS (vp_in_nI (show i + 1 < L by omega) (by omega)) dL_law_1446 ?_
  refine n_top (y := xs (i + 1)) (by rw [nI_clamp (by omega)]) ?_
  refine lv_aload_n hx hb dL_law_1447 rfl (lv_at hl 1 rfl) ?_
  refine lv_iload hx hb dL_law_1448 (lv_at hl 5 rfl) ?_
  refine n_iconst hx hb 2 dL_law_1450 (by decide) ?_
  refine n_iadd hx hb dL_law_1451 ?_
  refine va_sld hx hb hX hbl hbA hS (vp_in_nI (show i + 2 < L by omega) (by omega)) dL_law_1452 ?_
  refine n_top (y := xs (i + 2)) (by rw [nI_clamp (by omega)]) ?_
  have hP8 := va_Ptl hP
  refine k_rwV (As := [.int (xs (i + 1)), .int (xs (i + 2))]) (rest := []) (wc := lwW T ao f' a c' q8 Z g) (wr := []) (w1 := lwW T ao f' a c' q8 Z' g) (mc := 0) (ms := 0) cx (RWi.fr (hX1 H.size g) (Fr.head (wO T ao f' ++ oC T a c') (oX8 T q8 Z g) (oX8 T q8 Z' g))) (cwV 2 hts hL_X8_whyNot rfl rfl rfl (by decide +kernel) ⟨Nat.le_of_ble_eq_true rfl, Nat.le_of_ble_eq_true rfl⟩) (kN_full hP hD hS hA hE hK) (va_recv hK hP8 (ci := 8) (q0 := 0) rfl rfl) rfl hl.1 rfl (Nat.le_of_ble_eq_true rfl) dL_law_1453 ⟨by show cells + 1 + 0 ≤ 601024; omega, by show slots + 6 + 0 ≤ 7293033; omega⟩ (fun H locs hP hD hS hz => ?_)
  have hP : va_P G vwCl (lwW T ao f' a c' q8 Z' g) H := hP
  have hD : va_D (fun q : Nat => s.heap.size ≤ q) (lwW T ao f' a c' q8 Z' g) := hD
  refine lv_istore (lv' := [(6, .int bb), (5, .int v), (0, .ref b), (1, .ref (a.1 0)), (2, .ref (q8 0)), (3, .ref ao), (4, .int (nI i))]) hx hb dL_law_1456 hl (by decide) rfl (fun ls hl => ?_)
  refine lv_aload_n hx hb dL_law_1458 rfl (lv_at hl 4 rfl) ?_
  have hP8 := va_Ptl hP
  refine k_roV (As := []) (rest := []) (wc := oX8 T q8 Z' g) (d := 0) (v := Z' 0 0) cx (c_X8_thrown l G T (fun q : Nat => s.heap.size ≤ q) q8 Z' g) (cwV 0 hts hL_X8_thrown rfl rfl rfl (by decide +kernel) ⟨Nat.le_of_ble_eq_true rfl, Nat.le_of_ble_eq_true rfl⟩) hP8 hK (hE.kept hS.2.1) (va_recv hK hP8 (ci := 8) (q0 := 0) rfl rfl) rfl hl.1 rfl (Nat.le_of_ble_eq_true rfl) dL_law_1459 ⟨by show cells + 1 + 0 ≤ 601024; omega, by show slots + 6 + 0 ≤ 7293033; omega⟩ ?_
  refine lv_iload hx hb dL_law_1462 (lv_at hl 1 rfl) ?_
  refine lv_icmp_eq (tgt := 1469) hx hb dL_law_1464 (by decide) (fun _ => ?_) (fun h9 => absurd hth h9)
  refine lv_iload hx hb dL_law_1469 (lv_at hl 1 rfl) ?_
  refine lv_if_ne (tgt := 1486) hx hb dL_law_1471 (by decide) (fun _ => ?_) (fun h9 => ?_)
  · refine lv_goto (tgt := 1680) hx hb dL_law_1486 (by decide) ?_
    exact kk _ _ _ ⟨f', c', Z', g, hP, hD, hS, hJ1⟩ (lv_sub hl [2, 3, 4, 5, 6] rfl)
  have e9 : f' (nI 0).toNatClampNeg = bb.toInt64 := by rw [nI_clamp (by decide)]; exact han (h9.trans nI_0.symm)
  refine lv_aload_n hx hb dL_law_1474 rfl (lv_at hl 5 rfl) ?_
  refine n_iconst hx hb 0 dL_law_1475 (by decide) ?_
  refine va_lald hx hb hK hP 0 3 rfl rfl (vp_in_nI (show 0 < 1 by decide) (by decide)) dL_law_1476 ?_
  refine lv_iload hx hb dL_law_1477 (lv_at hl 0 rfl) ?_
  refine lv_i2l (v := bb.toInt64) hx hb dL_law_1479 rfl ?_
  refine W.lcmp hx hb dL_law_1480 ?_
  refine lv_if_eq (tgt := 1486) hx hb dL_law_1481 (by decide) (fun _ => ?_) (fun h9 => absurd (by rw [e9]; exact lg_self _) h9)
  refine lv_goto (tgt := 1680) hx hb dL_law_1486 (by decide) ?_
  exact kk _ _ _ ⟨f', c', Z', g, hP, hD, hS, hJ1⟩ (lv_sub hl [2, 3, 4, 5, 6] rfl)
set_option maxHeartbeats 8000000 in
set_option maxRecDepth 100000 in
theorem lc_ifWhistled (E : lwE l p s m c b L xs G T) {i B cells slots : Nat} (hi : i + 3 < L) (hL : L ≤ 2048) (hB : B + 100 < 2 ^ 27) (hcs : cells + 1 ≤ 601024 ∧ slots + 6 ≤ 7293033) {H : Heap} {locs : List Loc} {ls : Array Slot} (hW : lwS s G T a ao q8 B H locs) (hl : lv_has ls 9 (lwV b a ao q8 i)) (kk : ∀ (H : Heap) (locs : List Loc) (ls : Array Slot), lwS s G T a ao q8 (B + 100) H locs → lv_has ls 9 (lwV b a ao q8 i) → W p l e room_1 s m #[Value.ref b] below meth c H locs (cells + 1) (slots + 6) Q (F0 m 1680 ls [])) : W p l e room_1 s m #[Value.ref b] below meth c H locs cells slots Q (F0 m 1489 ls []) := by
  obtain ⟨hx, hb, hml, hown, hts, hX, hbl, hst, hK, hE, hgC, hgN⟩ := E
  obtain ⟨f, c9, Z, g, hP, hD, hS, hJ⟩ := hW
  have cx : CallFix p m c cL_law 9 s #[Value.ref b] wsLw RL := ⟨hx, hb, hml, hown, hts⟩
  have hA : ∀ q : Nat, s.heap.size ≤ q → (fun q : Nat => s.heap.size ≤ q) q := fun _ h => h
  have hbA : ¬ (fun q : Nat => s.heap.size ≤ q) b := Nat.not_le.mpr hbl
  have hl : lv_has ls 9 [(0, .ref b), (1, .ref (a.1 0)), (2, .ref (q8 0)), (3, .ref ao), (4, .int (nI i))] := hl
  obtain ⟨d, v, bb, f', c', Z', hd, hL1, hX1, hth, han, hJ1⟩ := st_ifWhistled l hst G T a ao q8 hB f c9 Z (xs (i + 1)) (xs (i + 2)) (xs (i + 3)) hJ
  refine lv_aload_n hx hb dL_law_1489 rfl (lv_at hl 1 rfl) ?_
  refine lv_aload_n hx hb dL_law_1490 rfl (lv_at hl 0 rfl) ?_
  refine lv_iload hx hb dL_law_1491 (lv_at hl 4 rfl) ?_
  refine n_iconst hx hb 1 dL_law_1493 (by decide) ?_
  refine n_iadd hx hb dL_law_1494 ?_
  refine va_sld hx hb hX hbl hbA hS (vp_in_nI (show i + 1 < L by omega) (by omega)) dL_law_1495 ?_
  refine n_top (y := xs (i + 1)) (by rw [nI_clamp (by omega)]) ?_
  refine lv_aload_n hx hb dL_law_1496 rfl (lv_at hl 0 rfl) ?_
  refine lv_iload hx hb dL_law_1497 (lv_at hl 4 rfl) ?_
  refine n_iconst hx hb 2 dL_law_1499 (by decide) ?_
  refine n_iadd hx hb dL_law_1500 ?_
  refine va_sld hx hb hX hbl hbA hS (vp_in_nI (show i + 2 < L by omega) (by omega)) dL_law_1501 ?_
  refine n_top (y := xs (i + 2)) (by rw [nI_clamp (by omega)]) ?_
  refine lv_aload_n hx hb dL_law_1502 rfl (lv_at hl 0 rfl) ?_
  refine lv_iload hx hb dL_law_1503 (lv_at hl 4 rfl) ?_
  refine n_iconst hx hb 3 dL_law_1505 (by decide) ?_
  refine n_iadd hx hb dL_law_1506 ?_
  refine va_sld hx hb hX hbl hbA hS (vp_in_nI (show i + 3 < L by omega) (by omega)) dL_law_1507 ?_
  refine n_top (y := xs (i + 3)) (by rw [nI_clamp (by omega)]) ?_
  refine lv_aload_n hx hb dL_law_1508 rfl (lv_at hl 3 rfl) ?_
  refine k_lxS (As := [.ref (a.1 0), .int (xs (i + 1)), .int (xs (i + 2)), .int (xs (i + 3)), .ref ao]) (rest := []) (wc := lwW T ao f a c9 q8 Z g) (wr := []) (w1 := lwW T ao f' a c' q8 Z g) cx (RWx.fr (hL1 H.size) (Fr.tail (wO T ao f ++ oC T a c9) (wO T ao f' ++ oC T a c') (oX8 T q8 Z g))) (vx_cwSW 5 hts hL_L_ifWhistled rfl rfl rfl (by decide +kernel) ⟨by show d + 1 ≤ 17; omega, by show 8 + (_ + 11) + 40 * d ≤ 664; omega⟩) (kN_full hP hD hS hA hE hK) hgC hgN rfl hl.1 rfl (Nat.le_of_ble_eq_true rfl) dL_law_1509 hcs (fun H locs hP hD hS hz => ?_)
  have hP : va_P G vwCl (lwW T ao f' a c' q8 Z g) H := hP
  have hD : va_D (fun q : Nat => s.heap.size ≤ q) (lwW T ao f' a c' q8 Z g) := hD
  refine lv_istore (lv' := [(5, .int v), (0, .ref b), (1, .ref (a.1 0)), (2, .ref (q8 0)), (3, .ref ao), (4, .int (nI i))]) hx hb dL_law_1512 hl (by decide) rfl (fun ls hl => ?_)
  refine lv_aload_n hx hb dL_law_1514 rfl (lv_at hl 3 rfl) ?_
  refine lv_aload_n hx hb dL_law_1515 rfl (lv_at hl 1 rfl) ?_
  refine lv_iload hx hb dL_law_1516 (lv_at hl 5 rfl) ?_
  refine n_iconst hx hb 1 dL_law_1518 (by decide) ?_
  refine n_iadd hx hb dL_law_1519 ?_
  refine va_sld hx hb hX hbl hbA hS (vp_in_nI (show i + 1 < L by omega) (by omega)) dL_law_1520 ?_
  refine n_top (y := xs (i + 1)) (by rw [nI_clamp (by omega)]) ?_
  refine lv_aload_n hx hb dL_law_1521 rfl (lv_at hl 1 rfl) ?_
  refine lv_iload hx hb dL_law_1522 (lv_at hl 5 rfl) ?_
  refine n_iconst hx hb 2 dL_law_1524 (by decide) ?_
  refine n_iadd hx hb dL_law_1525 ?_
  refine va_sld hx hb hX hbl hbA hS (vp_in_nI (show i + 2 < L by omega) (by omega)) dL_law_1526 ?_
  refine n_top (y := xs (i + 2)) (by rw [nI_clamp (by omega)]) ?_
  refine lv_aload_n hx hb dL_law_1527 rfl (lv_at hl 1 rfl) ?_
  refine lv_iload hx hb dL_law_1528 (lv_at hl 5 rfl) ?_
  refine n_iconst hx hb 3 dL_law_1530 (by decide) ?_
  refine n_iadd hx hb dL_law_1531 ?_
  refine va_sld hx hb hX hbl hbA hS (vp_in_nI (show i + 3 < L by omega) (by omega)) dL_law_1532 ?_
  refine n_top (y := xs (i + 3)) (by rw [nI_clamp (by omega)]) ?_
  have hP8 := va_Ptl hP
  refine k_rwV (As := [.int (xs (i + 1)), .int (xs (i + 2)), .int (xs (i + 3))]) (rest := []) (wc := lwW T ao f' a c' q8 Z g) (wr := []) (w1 := lwW T ao f' a c' q8 Z' g) (mc := 0) (ms := 0) cx (RWi.fr (hX1 H.size g) (Fr.head (wO T ao f' ++ oC T a c') (oX8 T q8 Z g) (oX8 T q8 Z' g))) (cwV 3 hts hL_X8_ifWhistled rfl rfl rfl (by decide +kernel) ⟨Nat.le_of_ble_eq_true rfl, Nat.le_of_ble_eq_true rfl⟩) (kN_full hP hD hS hA hE hK) (va_recv hK hP8 (ci := 8) (q0 := 0) rfl rfl) rfl hl.1 rfl (Nat.le_of_ble_eq_true rfl) dL_law_1533 ⟨by show cells + 1 + 0 ≤ 601024; omega, by show slots + 6 + 0 ≤ 7293033; omega⟩ (fun H locs hP hD hS hz => ?_)
  have hP : va_P G vwCl (lwW T ao f' a c' q8 Z' g) H := hP
  have hD : va_D (fun q : Nat => s.heap.size ≤ q) (lwW T ao f' a c' q8 Z' g) := hD
  refine lv_istore (lv' := [(6, .int bb), (5, .int v), (0, .ref b), (1, .ref (a.1 0)), (2, .ref (q8 0)), (3, .ref ao), (4, .int (nI i))]) hx hb dL_law_1536 hl (by decide) rfl (fun ls hl => ?_)
  refine lv_aload_n hx hb dL_law_1538 rfl (lv_at hl 4 rfl) ?_
  have hP8 := va_Ptl hP
  refine k_roV (As := []) (rest := []) (wc := oX8 T q8 Z' g) (d := 0) (v := Z' 0 0) cx (c_X8_thrown l G T (fun q : Nat => s.heap.size ≤ q) q8 Z' g) (cwV 0 hts hL_X8_thrown rfl rfl rfl (by decide +kernel) ⟨Nat.le_of_ble_eq_true rfl, Nat.le_of_ble_eq_true rfl⟩) hP8 hK (hE.kept hS.2.1) (va_recv hK hP8 (ci := 8) (q0 := 0) rfl rfl) rfl hl.1 rfl (Nat.le_of_ble_eq_true rfl) dL_law_1539 ⟨by show cells + 1 + 0 ≤ 601024; omega, by show slots + 6 + 0 ≤ 7293033; omega⟩ ?_
  refine lv_iload hx hb dL_law_1542 (lv_at hl 1 rfl) ?_
  refine lv_icmp_eq (tgt := 1549) hx hb dL_law_1544 (by decide) (fun _ => ?_) (fun h9 => absurd hth h9)
  refine lv_iload hx hb dL_law_1549 (lv_at hl 1 rfl) ?_
  refine lv_if_ne (tgt := 1566) hx hb dL_law_1551 (by decide) (fun _ => ?_) (fun h9 => ?_)
  · refine lv_goto (tgt := 1680) hx hb dL_law_1566 (by decide) ?_
    exact kk _ _ _ ⟨f', c', Z', g, hP, hD, hS, hJ1⟩ (lv_sub hl [2, 3, 4, 5, 6] rfl)
  have e9 : f' (nI 0).toNatClampNeg = bb.toInt64 := by rw [nI_clamp (by decide)]; exact han (h9.trans nI_0.symm)
  refine lv_aload_n hx hb dL_law_1554 rfl (lv_at hl 5 rfl) ?_
  refine n_iconst hx hb 0 dL_law_1555 (by decide) ?_
  refine va_lald hx hb hK hP 0 3 rfl rfl (vp_in_nI (show 0 < 1 by decide) (by decide)) dL_law_1556 ?_
  refine lv_iload hx hb dL_law_1557 (lv_at hl 0 rfl) ?_
  refine lv_i2l (v := bb.toInt64) hx hb dL_law_1559 rfl ?_
  refine W.lcmp hx hb dL_law_1560 ?_
  refine lv_if_eq (tgt := 1566) hx hb dL_law_1561 (by decide) (fun _ => ?_) (fun h9 => absurd (by rw [e9]; exact lg_self _) h9)
  refine lv_goto (tgt := 1680) hx hb dL_law_1566 (by decide) ?_
  exact kk _ _ _ ⟨f', c', Z', g, hP, hD, hS, hJ1⟩ (lv_sub hl [2, 3, 4, 5, 6] rfl)
set_option maxHeartbeats 8000000 in
set_option maxRecDepth 100000 in
theorem lc_bestRoom (E : lwE l p s m c b L xs G T) {i B cells slots : Nat} (hi : i + 3 < L) (hL : L ≤ 2048) (hB : B + 100 < 2 ^ 27) (hcs : cells + 1 ≤ 601024 ∧ slots + 6 ≤ 7293033) {H : Heap} {locs : List Loc} {ls : Array Slot} (hW : lwS s G T a ao q8 B H locs) (hl : lv_has ls 9 (lwV b a ao q8 i)) (kk : ∀ (H : Heap) (locs : List Loc) (ls : Array Slot), lwS s G T a ao q8 (B + 100) H locs → lv_has ls 9 (lwV b a ao q8 i) → W p l e room_1 s m #[Value.ref b] below meth c H locs (cells + 1) (slots + 6) Q (F0 m 1680 ls [])) : W p l e room_1 s m #[Value.ref b] below meth c H locs cells slots Q (F0 m 1569 ls []) := by
  obtain ⟨hx, hb, hml, hown, hts, hX, hbl, hst, hK, hE, hgC, hgN⟩ := E
  obtain ⟨f, c9, Z, g, hP, hD, hS, hJ⟩ := hW
  have cx : CallFix p m c cL_law 9 s #[Value.ref b] wsLw RL := ⟨hx, hb, hml, hown, hts⟩
  have hA : ∀ q : Nat, s.heap.size ≤ q → (fun q : Nat => s.heap.size ≤ q) q := fun _ h => h
  have hbA : ¬ (fun q : Nat => s.heap.size ≤ q) b := Nat.not_le.mpr hbl
  have hl : lv_has ls 9 [(0, .ref b), (1, .ref (a.1 0)), (2, .ref (q8 0)), (3, .ref ao), (4, .int (nI i))] := hl
  obtain ⟨d, v, bb, f', c', Z', hd, hL1, hX1, hth, han, hJ1⟩ := st_bestRoom l hst G T a ao q8 hB f c9 Z (xs (i + 1)) hJ
  refine lv_aload_n hx hb dL_law_1569 rfl (lv_at hl 1 rfl) ?_
  refine lv_aload_n hx hb dL_law_1570 rfl (lv_at hl 0 rfl) ?_
  refine lv_iload hx hb dL_law_1571 (lv_at hl 4 rfl) ?_
  refine n_iconst hx hb 1 dL_law_1573 (by decide) ?_
  refine n_iadd hx hb dL_law_1574 ?_
  refine va_sld hx hb hX hbl hbA hS (vp_in_nI (show i + 1 < L by omega) (by omega)) dL_law_1575 ?_
  refine n_top (y := xs (i + 1)) (by rw [nI_clamp (by omega)]) ?_
  refine lv_aload_n hx hb dL_law_1576 rfl (lv_at hl 3 rfl) ?_
  refine k_lxS (As := [.ref (a.1 0), .int (xs (i + 1)), .ref ao]) (rest := []) (wc := lwW T ao f a c9 q8 Z g) (wr := []) (w1 := lwW T ao f' a c' q8 Z g) cx (RWx.fr (hL1 H.size) (Fr.tail (wO T ao f ++ oC T a c9) (wO T ao f' ++ oC T a c') (oX8 T q8 Z g))) (vx_cwSW 3 hts hL_L_bestRoom rfl rfl rfl (by decide +kernel) ⟨by show d + 1 ≤ 17; omega, by show 8 + (_ + 11) + 40 * d ≤ 664; omega⟩) (kN_full hP hD hS hA hE hK) hgC hgN rfl hl.1 rfl (Nat.le_of_ble_eq_true rfl) dL_law_1577 hcs (fun H locs hP hD hS hz => ?_)
  have hP : va_P G vwCl (lwW T ao f' a c' q8 Z g) H := hP
  have hD : va_D (fun q : Nat => s.heap.size ≤ q) (lwW T ao f' a c' q8 Z g) := hD
  refine lv_istore (lv' := [(5, .int v), (0, .ref b), (1, .ref (a.1 0)), (2, .ref (q8 0)), (3, .ref ao), (4, .int (nI i))]) hx hb dL_law_1580 hl (by decide) rfl (fun ls hl => ?_)
  refine lv_aload_n hx hb dL_law_1582 rfl (lv_at hl 3 rfl) ?_
  refine lv_aload_n hx hb dL_law_1583 rfl (lv_at hl 1 rfl) ?_
  refine lv_iload hx hb dL_law_1584 (lv_at hl 5 rfl) ?_
  refine n_iconst hx hb 1 dL_law_1586 (by decide) ?_
  refine n_iadd hx hb dL_law_1587 ?_
  refine va_sld hx hb hX hbl hbA hS (vp_in_nI (show i + 1 < L by omega) (by omega)) dL_law_1588 ?_
  refine n_top (y := xs (i + 1)) (by rw [nI_clamp (by omega)]) ?_
  have hP8 := va_Ptl hP
  refine k_rwV (As := [.int (xs (i + 1))]) (rest := []) (wc := lwW T ao f' a c' q8 Z g) (wr := []) (w1 := lwW T ao f' a c' q8 Z' g) (mc := 0) (ms := 0) cx (RWi.fr (hX1 H.size g) (Fr.head (wO T ao f' ++ oC T a c') (oX8 T q8 Z g) (oX8 T q8 Z' g))) (cwV 1 hts hL_X8_bestRoom rfl rfl rfl (by decide +kernel) ⟨Nat.le_of_ble_eq_true rfl, Nat.le_of_ble_eq_true rfl⟩) (kN_full hP hD hS hA hE hK) (va_recv hK hP8 (ci := 8) (q0 := 0) rfl rfl) rfl hl.1 rfl (Nat.le_of_ble_eq_true rfl) dL_law_1589 ⟨by show cells + 1 + 0 ≤ 601024; omega, by show slots + 6 + 0 ≤ 7293033; omega⟩ (fun H locs hP hD hS hz => ?_)
  have hP : va_P G vwCl (lwW T ao f' a c' q8 Z' g) H := hP
  have hD : va_D (fun q : Nat => s.heap.size ≤ q) (lwW T ao f' a c' q8 Z' g) := hD
  refine lv_istore (lv' := [(6, .int bb), (5, .int v), (0, .ref b), (1, .ref (a.1 0)), (2, .ref (q8 0)), (3, .ref ao), (4, .int (nI i))]) hx hb dL_law_1592 hl (by decide) rfl (fun ls hl => ?_)
  refine lv_aload_n hx hb dL_law_1594 rfl (lv_at hl 4 rfl) ?_
  have hP8 := va_Ptl hP
  refine k_roV (As := []) (rest := []) (wc := oX8 T q8 Z' g) (d := 0) (v := Z' 0 0) cx (c_X8_thrown l G T (fun q : Nat => s.heap.size ≤ q) q8 Z' g) (cwV 0 hts hL_X8_thrown rfl rfl rfl (by decide +kernel) ⟨Nat.le_of_ble_eq_true rfl, Nat.le_of_ble_eq_true rfl⟩) hP8 hK (hE.kept hS.2.1) (va_recv hK hP8 (ci := 8) (q0 := 0) rfl rfl) rfl hl.1 rfl (Nat.le_of_ble_eq_true rfl) dL_law_1595 ⟨by show cells + 1 + 0 ≤ 601024; omega, by show slots + 6 + 0 ≤ 7293033; omega⟩ ?_
  refine lv_iload hx hb dL_law_1598 (lv_at hl 1 rfl) ?_
  refine lv_icmp_eq (tgt := 1605) hx hb dL_law_1600 (by decide) (fun _ => ?_) (fun h9 => absurd hth h9)
  refine lv_iload hx hb dL_law_1605 (lv_at hl 1 rfl) ?_
  refine lv_if_ne (tgt := 1622) hx hb dL_law_1607 (by decide) (fun _ => ?_) (fun h9 => ?_)
  · refine lv_goto (tgt := 1680) hx hb dL_law_1622 (by decide) ?_
    exact kk _ _ _ ⟨f', c', Z', g, hP, hD, hS, hJ1⟩ (lv_sub hl [2, 3, 4, 5, 6] rfl)
  have e9 : f' (nI 0).toNatClampNeg = bb.toInt64 := by rw [nI_clamp (by decide)]; exact han (h9.trans nI_0.symm)
  refine lv_aload_n hx hb dL_law_1610 rfl (lv_at hl 5 rfl) ?_
  refine n_iconst hx hb 0 dL_law_1611 (by decide) ?_
  refine va_lald hx hb hK hP 0 3 rfl rfl (vp_in_nI (show 0 < 1 by decide) (by decide)) dL_law_1612 ?_
  refine lv_iload hx hb dL_law_1613 (lv_at hl 0 rfl) ?_
  refine lv_i2l (v := bb.toInt64) hx hb dL_law_1615 rfl ?_
  refine W.lcmp hx hb dL_law_1616 ?_
  refine lv_if_eq (tgt := 1622) hx hb dL_law_1617 (by decide) (fun _ => ?_) (fun h9 => absurd (by rw [e9]; exact lg_self _) h9)
  refine lv_goto (tgt := 1680) hx hb dL_law_1622 (by decide) ?_
  exact kk _ _ _ ⟨f', c', Z', g, hP, hD, hS, hJ1⟩ (lv_sub hl [2, 3, 4, 5, 6] rfl)
set_option maxHeartbeats 8000000 in
set_option maxRecDepth 100000 in
theorem lc_understoodShare (E : lwE l p s m c b L xs G T) {i B cells slots : Nat} (hi : i + 3 < L) (hL : L ≤ 2048) (hB : B + 100 < 2 ^ 27) (hcs : cells + 1 ≤ 601024 ∧ slots + 6 ≤ 7293033) {H : Heap} {locs : List Loc} {ls : Array Slot} (hW : lwS s G T a ao q8 B H locs) (hl : lv_has ls 9 (lwV b a ao q8 i)) (kk : ∀ (H : Heap) (locs : List Loc) (ls : Array Slot), lwS s G T a ao q8 (B + 100) H locs → lv_has ls 9 (lwV b a ao q8 i) → W p l e room_1 s m #[Value.ref b] below meth c H locs (cells + 1) (slots + 6) Q (F0 m 1680 ls [])) : W p l e room_1 s m #[Value.ref b] below meth c H locs cells slots Q (F0 m 1625 ls []) := by
  obtain ⟨hx, hb, hml, hown, hts, hX, hbl, hst, hK, hE, hgC, hgN⟩ := E
  obtain ⟨f, c9, Z, g, hP, hD, hS, hJ⟩ := hW
  have cx : CallFix p m c cL_law 9 s #[Value.ref b] wsLw RL := ⟨hx, hb, hml, hown, hts⟩
  have hA : ∀ q : Nat, s.heap.size ≤ q → (fun q : Nat => s.heap.size ≤ q) q := fun _ h => h
  have hbA : ¬ (fun q : Nat => s.heap.size ≤ q) b := Nat.not_le.mpr hbl
  have hl : lv_has ls 9 [(0, .ref b), (1, .ref (a.1 0)), (2, .ref (q8 0)), (3, .ref ao), (4, .int (nI i))] := hl
  obtain ⟨v, hn, hL1, hX1, hJ1⟩ := st_share l G T a q8 hB c9 Z hJ
  refine lv_aload_n hx hb dL_law_1625 rfl (lv_at hl 1 rfl) ?_
  refine k_rdV (As := []) (rest := []) (wc := lwW T ao f a c9 q8 Z g) (wr := []) (w1 := lwW T ao f a c9 q8 Z g) (mc := 0) (ms := 0) cx (RWd.fr (RWd.fr (hL1 H.size) (Fr.head (wO T ao f) (oC T a c9) (oC T a c9))) (Fr.tail (wO T ao f ++ oC T a c9) (wO T ao f ++ oC T a c9) (oX8 T q8 Z g))) (cwV 0 hts hL_X7_understoodShare rfl rfl rfl (by decide +kernel) ⟨Nat.le_of_ble_eq_true rfl, Nat.le_of_ble_eq_true rfl⟩) (kN_full hP hD hS hA hE hK) (va_recv hK hP (ci := 7) (q0 := 1) rfl rfl) rfl hl.1 rfl (Nat.le_of_ble_eq_true rfl) dL_law_1626 ⟨by show cells + 0 ≤ 601024; omega, by show slots + 0 ≤ 7293033; omega⟩ (fun H locs hP hD hS hz => ?_)
  have hP : va_P G vwCl (lwW T ao f a c9 q8 Z g) H := hP
  have hD : va_D (fun q : Nat => s.heap.size ≤ q) (lwW T ao f a c9 q8 Z g) := hD
  refine lv_dstore (lv' := [(5, .double v), (0, .ref b), (1, .ref (a.1 0)), (2, .ref (q8 0)), (3, .ref ao), (4, .int (nI i))]) hx hb dL_law_1629 hl (by decide) rfl (fun ls hl => ?_)
  refine lv_aload_n hx hb dL_law_1631 rfl (lv_at hl 3 rfl) ?_
  have hP8 := va_Ptl hP
  refine k_rdV (As := []) (rest := []) (wc := lwW T ao f a c9 q8 Z g) (wr := []) (w1 := lwW T ao f a c9 q8 (sc Z 0 (nI 0)) g) (mc := 0) (ms := 0) cx (RWd.fr (hX1 H.size g) (Fr.head (wO T ao f ++ oC T a c9) (oX8 T q8 Z g) (oX8 T q8 (sc Z 0 (nI 0)) g))) (cwV 0 hts hL_X8_understoodShare rfl rfl rfl (by decide +kernel) ⟨Nat.le_of_ble_eq_true rfl, Nat.le_of_ble_eq_true rfl⟩) (kN_full hP hD hS hA hE hK) (va_recv hK hP8 (ci := 8) (q0 := 0) rfl rfl) rfl hl.1 rfl (Nat.le_of_ble_eq_true rfl) dL_law_1632 ⟨by show cells + 0 + 0 ≤ 601024; omega, by show slots + 0 + 0 ≤ 7293033; omega⟩ (fun H locs hP hD hS hz => ?_)
  have hP : va_P G vwCl (lwW T ao f a c9 q8 (sc Z 0 (nI 0)) g) H := hP
  have hD : va_D (fun q : Nat => s.heap.size ≤ q) (lwW T ao f a c9 q8 (sc Z 0 (nI 0)) g) := hD
  refine lv_dstore (lv' := [(7, .double v), (5, .double v), (0, .ref b), (1, .ref (a.1 0)), (2, .ref (q8 0)), (3, .ref ao), (4, .int (nI i))]) hx hb dL_law_1635 hl (by decide) rfl (fun ls hl => ?_)
  refine lv_dload hx hb dL_law_1637 (lv_at hl 1 rfl) ?_
  refine lv_dload hx hb dL_law_1639 (lv_at hl 0 rfl) ?_
  refine lv_dcmp hx hb dL_law_1641 ?_
  refine lv_if_eq (tgt := 1663) hx hb dL_law_1642 (by decide) (fun _ => ?_) (fun h9 => absurd (by rw [hn]; rfl) h9)
  refine lv_goto (tgt := 1680) hx hb dL_law_1663 (by decide) ?_
  exact W.widen (k := cells + 1) (n := slots + 6) (by omega) (by omega) (kk _ _ _ ⟨f, c9, sc Z 0 (nI 0), g, hP, hD, hS, hJ1⟩ (lv_sub hl [2, 3, 4, 5, 6] rfl))
set_option maxHeartbeats 8000000 in
set_option maxRecDepth 100000 in
theorem lc_digest (E : lwE l p s m c b L xs G T) {i B cells slots : Nat} (hi : i + 3 < L) (hL : L ≤ 2048) (hB : B + 100 < 2 ^ 27) (hcs : cells + 1 ≤ 601024 ∧ slots + 6 ≤ 7293033) {H : Heap} {locs : List Loc} {ls : Array Slot} (hW : lwS s G T a ao q8 B H locs) (hl : lv_has ls 9 (lwV b a ao q8 i)) (kk : ∀ (H : Heap) (locs : List Loc) (ls : Array Slot), lwS s G T a ao q8 (B + 100) H locs → lv_has ls 9 (lwV b a ao q8 i) → W p l e room_1 s m #[Value.ref b] below meth c H locs (cells + 1) (slots + 6) Q (F0 m 1680 ls [])) : W p l e room_1 s m #[Value.ref b] below meth c H locs cells slots Q (F0 m 1666 ls []) := by
  obtain ⟨hx, hb, hml, hown, hts, hX, hbl, hst, hK, hE, hgC, hgN⟩ := E
  obtain ⟨f, c9, Z, g, hP, hD, hS, hJ⟩ := hW
  have cx : CallFix p m c cL_law 9 s #[Value.ref b] wsLw RL := ⟨hx, hb, hml, hown, hts⟩
  have hA : ∀ q : Nat, s.heap.size ≤ q → (fun q : Nat => s.heap.size ≤ q) q := fun _ h => h
  have hbA : ¬ (fun q : Nat => s.heap.size ≤ q) b := Nat.not_le.mpr hbl
  have hl : lv_has ls 9 [(0, .ref b), (1, .ref (a.1 0)), (2, .ref (q8 0)), (3, .ref ao), (4, .int (nI i))] := hl
  obtain ⟨v, c', Z', hL1, hX1, hJ1⟩ := st_digest l G T a q8 hB c9 Z hJ
  refine lv_aload_n hx hb dL_law_1666 rfl (lv_at hl 1 rfl) ?_
  refine k_rlV (As := []) (rest := []) (wc := lwW T ao f a c9 q8 Z g) (wr := []) (w1 := lwW T ao f a c' q8 Z g) (mc := 0) (ms := 0) cx (RWl.fr (RWl.fr (hL1 H.size) (Fr.head (wO T ao f) (oC T a c9) (oC T a c'))) (Fr.tail (wO T ao f ++ oC T a c9) (wO T ao f ++ oC T a c') (oX8 T q8 Z g))) (cwV 0 hts hL_X7_digest rfl rfl rfl (by decide +kernel) ⟨Nat.le_of_ble_eq_true rfl, Nat.le_of_ble_eq_true rfl⟩) (kN_full hP hD hS hA hE hK) (va_recv hK hP (ci := 7) (q0 := 1) rfl rfl) rfl hl.1 rfl (Nat.le_of_ble_eq_true rfl) dL_law_1667 ⟨by show cells + 0 ≤ 601024; omega, by show slots + 0 ≤ 7293033; omega⟩ (fun H locs hP hD hS hz => ?_)
  have hP : va_P G vwCl (lwW T ao f a c' q8 Z g) H := hP
  have hD : va_D (fun q : Nat => s.heap.size ≤ q) (lwW T ao f a c' q8 Z g) := hD
  refine lv_aload_n hx hb dL_law_1670 rfl (lv_at hl 2 rfl) ?_
  have hP8 := va_Ptl hP
  refine k_rlV (As := []) (rest := [.long v]) (wc := lwW T ao f a c' q8 Z g) (wr := []) (w1 := lwW T ao f a c' q8 Z' v) (mc := 0) (ms := 0) cx (RWl.fr (hX1 H.size g) (Fr.head (wO T ao f ++ oC T a c') (oX8 T q8 Z g) (oX8 T q8 Z' v))) (cwV 0 hts hL_X8_digest rfl rfl rfl (by decide +kernel) ⟨Nat.le_of_ble_eq_true rfl, Nat.le_of_ble_eq_true rfl⟩) (kN_full hP hD hS hA hE hK) (va_recv hK hP8 (ci := 8) (q0 := 0) rfl rfl) rfl hl.1 rfl (Nat.le_of_ble_eq_true rfl) dL_law_1671 ⟨by show cells + 0 + 0 ≤ 601024; omega, by show slots + 0 + 0 ≤ 7293033; omega⟩ (fun H locs hP hD hS hz => ?_)
  have hP : va_P G vwCl (lwW T ao f a c' q8 Z' v) H := hP
  have hD : va_D (fun q : Nat => s.heap.size ≤ q) (lwW T ao f a c' q8 Z' v) := hD
  refine W.lcmp hx hb dL_law_1674 ?_
  refine lv_if_eq (tgt := 1680) hx hb dL_law_1675 (by decide) (fun _ => ?_) (fun h9 => absurd (lg_self _) h9)
  exact W.widen (k := cells + 1) (n := slots + 6) (by omega) (by omega) (kk _ _ _ ⟨f, c', Z', v, hP, hD, hS, hJ1⟩ hl)
end LC
