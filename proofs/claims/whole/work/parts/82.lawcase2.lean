/-! the law's cases 5 to 11 (printed by wip/whole/mklc.py) -/
section LC
variable {p : Program} {l : Launch} {e : Env} {s : State} {m : MethodId} {below : List Frame} {meth : Method} {c : Code} {b L : Nat} {xs : Nat → Int32} {G : va_G} {T : Nat → ClassId} {a : CA} {ao : Nat} {q8 : Nat → Nat} {Q : State → Prop}
set_option maxHeartbeats 8000000 in
set_option maxRecDepth 100000 in
theorem lc_ban (E : lwE l p s m c b L xs G T) {i B cells slots : Nat} (hi : i + 3 < L) (hL : L ≤ 2048) (hB : B + 100 < 2 ^ 27) (hcs : cells + 1 ≤ 601024 ∧ slots + 6 ≤ 7293033) {H : Heap} {locs : List Loc} {ls : Array Slot} (hW : lwS s G T a ao q8 B H locs) (hl : lv_has ls 9 (lwV b a ao q8 i)) (kk : ∀ (H : Heap) (locs : List Loc) (ls : Array Slot), lwS s G T a ao q8 (B + 100) H locs → lv_has ls 9 (lwV b a ao q8 i) → W p l e room_1 s m #[Value.ref b] below meth c H locs (cells + 1) (slots + 6) Q (F0 m 1680 ls [])) : W p l e room_1 s m #[Value.ref b] below meth c H locs cells slots Q (F0 m 480 ls []) := by
  obtain ⟨hx, hb, hml, hown, hts, hX, hbl, hst, hK, hE, hgC, hgN⟩ := E
  obtain ⟨f, c9, Z, g, hP, hD, hS, hJ⟩ := hW
  have cx : CallFix p m c cL_law 9 s #[Value.ref b] wsLw RL := ⟨hx, hb, hml, hown, hts⟩
  have hA : ∀ q : Nat, s.heap.size ≤ q → (fun q : Nat => s.heap.size ≤ q) q := fun _ h => h
  have hbA : ¬ (fun q : Nat => s.heap.size ≤ q) b := Nat.not_le.mpr hbl
  have hl : lv_has ls 9 [(0, .ref b), (1, .ref (a.1 0)), (2, .ref (q8 0)), (3, .ref ao), (4, .int (nI i))] := hl
  obtain ⟨d, v, bb, f', c', Z', hd, hL1, hX1, hth, han, hJ1⟩ := st_ban l hst G T a ao q8 hB f c9 Z (xs (i + 1)) (xs (i + 2)) hJ
  refine lv_aload_n hx hb dL_law_480 rfl (lv_at hl 1 rfl) ?_
  refine lv_aload_n hx hb dL_law_481 rfl (lv_at hl 0 rfl) ?_
  refine lv_iload hx hb dL_law_482 (lv_at hl 4 rfl) ?_
  refine n_iconst hx hb 1 dL_law_484 (by decide) ?_
  refine n_iadd hx hb dL_law_485 ?_
  refine va_sld hx hb hX hbl hbA hS (vp_in_nI (show i + 1 < L by omega) (by omega)) dL_law_486 ?_
  refine n_top (y := xs (i + 1)) (by rw [nI_clamp (by omega)]) ?_
  refine lv_aload_n hx hb dL_law_487 rfl (lv_at hl 0 rfl) ?_
  refine lv_iload hx hb dL_law_488 (lv_at hl 4 rfl) ?_
  refine n_iconst hx hb 2 dL_law_490 (by decide) ?_
  refine n_iadd hx hb dL_law_491 ?_
  refine va_sld hx hb hX hbl hbA hS (vp_in_nI (show i + 2 < L by omega) (by omega)) dL_law_492 ?_
  refine n_top (y := xs (i + 2)) (by rw [nI_clamp (by omega)]) ?_
  refine lv_aload_n hx hb dL_law_493 rfl (lv_at hl 3 rfl) ?_
  refine k_lxS (As := [.ref (a.1 0), .int (xs (i + 1)), .int (xs (i + 2)), .ref ao]) (rest := []) (wc := lwW T ao f a c9 q8 Z g) (wr := []) (w1 := lwW T ao f' a c' q8 Z g) cx (RWx.fr (hL1 H.size) (Fr.tail (wO T ao f ++ oC T a c9) (wO T ao f' ++ oC T a c') (oX8 T q8 Z g))) (vx_cwSW 4 hts hL_L_ban rfl rfl rfl (by decide +kernel) ⟨by show d + 1 ≤ 17; omega, by show 8 + (_ + 11) + 40 * d ≤ 664; omega⟩) (kN_full hP hD hS hA hE hK) hgC hgN rfl hl.1 rfl (Nat.le_of_ble_eq_true rfl) dL_law_494 hcs (fun H locs hP hD hS hz => ?_)
  have hP : va_P G vwCl (lwW T ao f' a c' q8 Z g) H := hP
  have hD : va_D (fun q : Nat => s.heap.size ≤ q) (lwW T ao f' a c' q8 Z g) := hD
  refine lv_istore (lv' := [(5, .int v), (0, .ref b), (1, .ref (a.1 0)), (2, .ref (q8 0)), (3, .ref ao), (4, .int (nI i))]) hx hb dL_law_497 hl (by decide) rfl (fun ls hl => ?_)
  refine lv_aload_n hx hb dL_law_499 rfl (lv_at hl 3 rfl) ?_
  refine lv_aload_n hx hb dL_law_500 rfl (lv_at hl 1 rfl) ?_
  refine lv_iload hx hb dL_law_501 (lv_at hl 5 rfl) ?_
  refine n_iconst hx hb 1 dL_law_503 (by decide) ?_
  refine n_iadd hx hb dL_law_504 ?_
  refine va_sld hx hb hX hbl hbA hS (vp_in_nI (show i + 1 < L by omega) (by omega)) dL_law_505 ?_
  refine n_top (y := xs (i + 1)) (by rw [nI_clamp (by omega)]) ?_
  refine lv_aload_n hx hb dL_law_506 rfl (lv_at hl 1 rfl) ?_
  refine lv_iload hx hb dL_law_507 (lv_at hl 5 rfl) ?_
  refine n_iconst hx hb 2 dL_law_509 (by decide) ?_
  refine n_iadd hx hb dL_law_510 ?_
  refine va_sld hx hb hX hbl hbA hS (vp_in_nI (show i + 2 < L by omega) (by omega)) dL_law_511 ?_
  refine n_top (y := xs (i + 2)) (by rw [nI_clamp (by omega)]) ?_
  have hP8 := va_Ptl hP
  refine k_rwV (As := [.int (xs (i + 1)), .int (xs (i + 2))]) (rest := []) (wc := lwW T ao f' a c' q8 Z g) (wr := []) (w1 := lwW T ao f' a c' q8 Z' g) (mc := 0) (ms := 0) cx (RWi.fr (hX1 H.size g) (Fr.head (wO T ao f' ++ oC T a c') (oX8 T q8 Z g) (oX8 T q8 Z' g))) (cwV 2 hts hL_X8_ban rfl rfl rfl (by decide +kernel) ⟨Nat.le_of_ble_eq_true rfl, Nat.le_of_ble_eq_true rfl⟩) (kN_full hP hD hS hA hE hK) (va_recv hK hP8 (ci := 8) (q0 := 0) rfl rfl) rfl hl.1 rfl (Nat.le_of_ble_eq_true rfl) dL_law_512 ⟨by show cells + 1 + 0 ≤ 601024; omega, by show slots + 6 + 0 ≤ 7293033; omega⟩ (fun H locs hP hD hS hz => ?_)
  have hP : va_P G vwCl (lwW T ao f' a c' q8 Z' g) H := hP
  have hD : va_D (fun q : Nat => s.heap.size ≤ q) (lwW T ao f' a c' q8 Z' g) := hD
  refine lv_istore (lv' := [(6, .int bb), (5, .int v), (0, .ref b), (1, .ref (a.1 0)), (2, .ref (q8 0)), (3, .ref ao), (4, .int (nI i))]) hx hb dL_law_515 hl (by decide) rfl (fun ls hl => ?_)
  refine lv_aload_n hx hb dL_law_517 rfl (lv_at hl 4 rfl) ?_
  have hP8 := va_Ptl hP
  refine k_roV (As := []) (rest := []) (wc := oX8 T q8 Z' g) (d := 0) (v := Z' 0 0) cx (c_X8_thrown l G T (fun q : Nat => s.heap.size ≤ q) q8 Z' g) (cwV 0 hts hL_X8_thrown rfl rfl rfl (by decide +kernel) ⟨Nat.le_of_ble_eq_true rfl, Nat.le_of_ble_eq_true rfl⟩) hP8 hK (hE.kept hS.2.1) (va_recv hK hP8 (ci := 8) (q0 := 0) rfl rfl) rfl hl.1 rfl (Nat.le_of_ble_eq_true rfl) dL_law_518 ⟨by show cells + 1 + 0 ≤ 601024; omega, by show slots + 6 + 0 ≤ 7293033; omega⟩ ?_
  refine lv_iload hx hb dL_law_521 (lv_at hl 1 rfl) ?_
  refine lv_icmp_eq (tgt := 528) hx hb dL_law_523 (by decide) (fun _ => ?_) (fun h9 => absurd hth h9)
  refine lv_iload hx hb dL_law_528 (lv_at hl 1 rfl) ?_
  refine lv_if_ne (tgt := 545) hx hb dL_law_530 (by decide) (fun _ => ?_) (fun h9 => ?_)
  · refine lv_goto (tgt := 1680) hx hb dL_law_545 (by decide) ?_
    exact kk _ _ _ ⟨f', c', Z', g, hP, hD, hS, hJ1⟩ (lv_sub hl [2, 3, 4, 5, 6] rfl)
  have e9 : f' (nI 0).toNatClampNeg = bb.toInt64 := by rw [nI_clamp (by decide)]; exact han (h9.trans nI_0.symm)
  refine lv_aload_n hx hb dL_law_533 rfl (lv_at hl 5 rfl) ?_
  refine n_iconst hx hb 0 dL_law_534 (by decide) ?_
  refine va_lald hx hb hK hP 0 3 rfl rfl (vp_in_nI (show 0 < 1 by decide) (by decide)) dL_law_535 ?_
  refine lv_iload hx hb dL_law_536 (lv_at hl 0 rfl) ?_
  refine lv_i2l (v := bb.toInt64) hx hb dL_law_538 rfl ?_
  refine W.lcmp hx hb dL_law_539 ?_
  refine lv_if_eq (tgt := 545) hx hb dL_law_540 (by decide) (fun _ => ?_) (fun h9 => absurd (by rw [e9]; exact lg_self _) h9)
  refine lv_goto (tgt := 1680) hx hb dL_law_545 (by decide) ?_
  exact kk _ _ _ ⟨f', c', Z', g, hP, hD, hS, hJ1⟩ (lv_sub hl [2, 3, 4, 5, 6] rfl)
set_option maxHeartbeats 8000000 in
set_option maxRecDepth 100000 in
theorem lc_bell (E : lwE l p s m c b L xs G T) {i B cells slots : Nat} (hi : i + 3 < L) (hL : L ≤ 2048) (hB : B + 100 < 2 ^ 27) (hcs : cells + 1 ≤ 601024 ∧ slots + 6 ≤ 7293033) {H : Heap} {locs : List Loc} {ls : Array Slot} (hW : lwS s G T a ao q8 B H locs) (hl : lv_has ls 9 (lwV b a ao q8 i)) (kk : ∀ (H : Heap) (locs : List Loc) (ls : Array Slot), lwS s G T a ao q8 (B + 100) H locs → lv_has ls 9 (lwV b a ao q8 i) → W p l e room_1 s m #[Value.ref b] below meth c H locs (cells + 1) (slots + 6) Q (F0 m 1680 ls [])) : W p l e room_1 s m #[Value.ref b] below meth c H locs cells slots Q (F0 m 548 ls []) := by
  obtain ⟨hx, hb, hml, hown, hts, hX, hbl, hst, hK, hE, hgC, hgN⟩ := E
  obtain ⟨f, c9, Z, g, hP, hD, hS, hJ⟩ := hW
  have cx : CallFix p m c cL_law 9 s #[Value.ref b] wsLw RL := ⟨hx, hb, hml, hown, hts⟩
  have hA : ∀ q : Nat, s.heap.size ≤ q → (fun q : Nat => s.heap.size ≤ q) q := fun _ h => h
  have hbA : ¬ (fun q : Nat => s.heap.size ≤ q) b := Nat.not_le.mpr hbl
  have hl : lv_has ls 9 [(0, .ref b), (1, .ref (a.1 0)), (2, .ref (q8 0)), (3, .ref ao), (4, .int (nI i))] := hl
  obtain ⟨v, bb, c', Z', hL1, hX1, hvb, hJ1⟩ := st_bell l G T a q8 hB c9 Z hJ
  refine lv_aload_n hx hb dL_law_548 rfl (lv_at hl 1 rfl) ?_
  refine k_rwV (As := []) (rest := []) (wc := lwW T ao f a c9 q8 Z g) (wr := []) (w1 := lwW T ao f a c' q8 Z g) (mc := 0) (ms := 0) cx (RWi.fr (RWi.fr (hL1 H.size) (Fr.head (wO T ao f) (oC T a c9) (oC T a c'))) (Fr.tail (wO T ao f ++ oC T a c9) (wO T ao f ++ oC T a c') (oX8 T q8 Z g))) (cwV 0 hts hL_X7_bell rfl rfl rfl (by decide +kernel) ⟨Nat.le_of_ble_eq_true rfl, Nat.le_of_ble_eq_true rfl⟩) (kN_full hP hD hS hA hE hK) (va_recv hK hP (ci := 7) (q0 := 1) rfl rfl) rfl hl.1 rfl (Nat.le_of_ble_eq_true rfl) dL_law_549 ⟨by show cells + 0 ≤ 601024; omega, by show slots + 0 ≤ 7293033; omega⟩ (fun H locs hP hD hS hz => ?_)
  have hP : va_P G vwCl (lwW T ao f a c' q8 Z g) H := hP
  have hD : va_D (fun q : Nat => s.heap.size ≤ q) (lwW T ao f a c' q8 Z g) := hD
  refine lv_aload_n hx hb dL_law_552 rfl (lv_at hl 2 rfl) ?_
  have hP8 := va_Ptl hP
  refine k_rwV (As := []) (rest := [.int v]) (wc := lwW T ao f a c' q8 Z g) (wr := []) (w1 := lwW T ao f a c' q8 Z' g) (mc := 0) (ms := 0) cx (RWi.fr (hX1 H.size g) (Fr.head (wO T ao f ++ oC T a c') (oX8 T q8 Z g) (oX8 T q8 Z' g))) (cwV 0 hts hL_X8_bell rfl rfl rfl (by decide +kernel) ⟨Nat.le_of_ble_eq_true rfl, Nat.le_of_ble_eq_true rfl⟩) (kN_full hP hD hS hA hE hK) (va_recv hK hP8 (ci := 8) (q0 := 0) rfl rfl) rfl hl.1 rfl (Nat.le_of_ble_eq_true rfl) dL_law_553 ⟨by show cells + 0 + 0 ≤ 601024; omega, by show slots + 0 + 0 ≤ 7293033; omega⟩ (fun H locs hP hD hS hz => ?_)
  have hP : va_P G vwCl (lwW T ao f a c' q8 Z' g) H := hP
  have hD : va_D (fun q : Nat => s.heap.size ≤ q) (lwW T ao f a c' q8 Z' g) := hD
  refine lv_icmp_eq (tgt := 1680) hx hb dL_law_556 (by decide) (fun _ => ?_) (fun h9 => absurd hvb h9)
  exact W.widen (k := cells + 1) (n := slots + 6) (by omega) (by omega) (kk _ _ _ ⟨f, c', Z', g, hP, hD, hS, hJ1⟩ hl)
set_option maxHeartbeats 8000000 in
set_option maxRecDepth 100000 in
theorem lc_set (E : lwE l p s m c b L xs G T) {i B cells slots : Nat} (hi : i + 3 < L) (hL : L ≤ 2048) (hB : B + 100 < 2 ^ 27) (hcs : cells + 1 ≤ 601024 ∧ slots + 6 ≤ 7293033) {H : Heap} {locs : List Loc} {ls : Array Slot} (hW : lwS s G T a ao q8 B H locs) (hl : lv_has ls 9 (lwV b a ao q8 i)) (kk : ∀ (H : Heap) (locs : List Loc) (ls : Array Slot), lwS s G T a ao q8 (B + 100) H locs → lv_has ls 9 (lwV b a ao q8 i) → W p l e room_1 s m #[Value.ref b] below meth c H locs (cells + 1) (slots + 6) Q (F0 m 1680 ls [])) : W p l e room_1 s m #[Value.ref b] below meth c H locs cells slots Q (F0 m 561 ls []) := by
  obtain ⟨hx, hb, hml, hown, hts, hX, hbl, hst, hK, hE, hgC, hgN⟩ := E
  obtain ⟨f, c9, Z, g, hP, hD, hS, hJ⟩ := hW
  have cx : CallFix p m c cL_law 9 s #[Value.ref b] wsLw RL := ⟨hx, hb, hml, hown, hts⟩
  have hA : ∀ q : Nat, s.heap.size ≤ q → (fun q : Nat => s.heap.size ≤ q) q := fun _ h => h
  have hbA : ¬ (fun q : Nat => s.heap.size ≤ q) b := Nat.not_le.mpr hbl
  have hl : lv_has ls 9 [(0, .ref b), (1, .ref (a.1 0)), (2, .ref (q8 0)), (3, .ref ao), (4, .int (nI i))] := hl
  obtain ⟨d, v, bb, f', c', Z', hd, hL1, hX1, hth, han, hJ1⟩ := st_set l hst G T a ao q8 hB f c9 Z (xs (i + 1)) (xs (i + 2)) hJ
  refine lv_aload_n hx hb dL_law_561 rfl (lv_at hl 1 rfl) ?_
  refine lv_aload_n hx hb dL_law_562 rfl (lv_at hl 0 rfl) ?_
  refine lv_iload hx hb dL_law_563 (lv_at hl 4 rfl) ?_
  refine n_iconst hx hb 1 dL_law_565 (by decide) ?_
  refine n_iadd hx hb dL_law_566 ?_
  refine va_sld hx hb hX hbl hbA hS (vp_in_nI (show i + 1 < L by omega) (by omega)) dL_law_567 ?_
  refine n_top (y := xs (i + 1)) (by rw [nI_clamp (by omega)]) ?_
  refine lv_aload_n hx hb dL_law_568 rfl (lv_at hl 0 rfl) ?_
  refine lv_iload hx hb dL_law_569 (lv_at hl 4 rfl) ?_
  refine n_iconst hx hb 2 dL_law_571 (by decide) ?_
  refine n_iadd hx hb dL_law_572 ?_
  refine va_sld hx hb hX hbl hbA hS (vp_in_nI (show i + 2 < L by omega) (by omega)) dL_law_573 ?_
  refine n_top (y := xs (i + 2)) (by rw [nI_clamp (by omega)]) ?_
  refine lv_aload_n hx hb dL_law_574 rfl (lv_at hl 3 rfl) ?_
  refine k_lxS (As := [.ref (a.1 0), .int (xs (i + 1)), .int (xs (i + 2)), .ref ao]) (rest := []) (wc := lwW T ao f a c9 q8 Z g) (wr := []) (w1 := lwW T ao f' a c' q8 Z g) cx (RWx.fr (hL1 H.size) (Fr.tail (wO T ao f ++ oC T a c9) (wO T ao f' ++ oC T a c') (oX8 T q8 Z g))) (vx_cwSW 4 hts hL_L_set rfl rfl rfl (by decide +kernel) ⟨by show d + 1 ≤ 17; omega, by show 8 + (_ + 11) + 40 * d ≤ 664; omega⟩) (kN_full hP hD hS hA hE hK) hgC hgN rfl hl.1 rfl (Nat.le_of_ble_eq_true rfl) dL_law_575 hcs (fun H locs hP hD hS hz => ?_)
  have hP : va_P G vwCl (lwW T ao f' a c' q8 Z g) H := hP
  have hD : va_D (fun q : Nat => s.heap.size ≤ q) (lwW T ao f' a c' q8 Z g) := hD
  refine lv_istore (lv' := [(5, .int v), (0, .ref b), (1, .ref (a.1 0)), (2, .ref (q8 0)), (3, .ref ao), (4, .int (nI i))]) hx hb dL_law_578 hl (by decide) rfl (fun ls hl => ?_)
  refine lv_aload_n hx hb dL_law_580 rfl (lv_at hl 3 rfl) ?_
  refine lv_aload_n hx hb dL_law_581 rfl (lv_at hl 1 rfl) ?_
  refine lv_iload hx hb dL_law_582 (lv_at hl 5 rfl) ?_
  refine n_iconst hx hb 1 dL_law_584 (by decide) ?_
  refine n_iadd hx hb dL_law_585 ?_
  refine va_sld hx hb hX hbl hbA hS (vp_in_nI (show i + 1 < L by omega) (by omega)) dL_law_586 ?_
  refine n_top (y := xs (i + 1)) (by rw [nI_clamp (by omega)]) ?_
  refine lv_aload_n hx hb dL_law_587 rfl (lv_at hl 1 rfl) ?_
  refine lv_iload hx hb dL_law_588 (lv_at hl 5 rfl) ?_
  refine n_iconst hx hb 2 dL_law_590 (by decide) ?_
  refine n_iadd hx hb dL_law_591 ?_
  refine va_sld hx hb hX hbl hbA hS (vp_in_nI (show i + 2 < L by omega) (by omega)) dL_law_592 ?_
  refine n_top (y := xs (i + 2)) (by rw [nI_clamp (by omega)]) ?_
  have hP8 := va_Ptl hP
  refine k_rwV (As := [.int (xs (i + 1)), .int (xs (i + 2))]) (rest := []) (wc := lwW T ao f' a c' q8 Z g) (wr := []) (w1 := lwW T ao f' a c' q8 Z' g) (mc := 0) (ms := 0) cx (RWi.fr (hX1 H.size g) (Fr.head (wO T ao f' ++ oC T a c') (oX8 T q8 Z g) (oX8 T q8 Z' g))) (cwV 2 hts hL_X8_set rfl rfl rfl (by decide +kernel) ⟨Nat.le_of_ble_eq_true rfl, Nat.le_of_ble_eq_true rfl⟩) (kN_full hP hD hS hA hE hK) (va_recv hK hP8 (ci := 8) (q0 := 0) rfl rfl) rfl hl.1 rfl (Nat.le_of_ble_eq_true rfl) dL_law_593 ⟨by show cells + 1 + 0 ≤ 601024; omega, by show slots + 6 + 0 ≤ 7293033; omega⟩ (fun H locs hP hD hS hz => ?_)
  have hP : va_P G vwCl (lwW T ao f' a c' q8 Z' g) H := hP
  have hD : va_D (fun q : Nat => s.heap.size ≤ q) (lwW T ao f' a c' q8 Z' g) := hD
  refine lv_istore (lv' := [(6, .int bb), (5, .int v), (0, .ref b), (1, .ref (a.1 0)), (2, .ref (q8 0)), (3, .ref ao), (4, .int (nI i))]) hx hb dL_law_596 hl (by decide) rfl (fun ls hl => ?_)
  refine lv_aload_n hx hb dL_law_598 rfl (lv_at hl 4 rfl) ?_
  have hP8 := va_Ptl hP
  refine k_roV (As := []) (rest := []) (wc := oX8 T q8 Z' g) (d := 0) (v := Z' 0 0) cx (c_X8_thrown l G T (fun q : Nat => s.heap.size ≤ q) q8 Z' g) (cwV 0 hts hL_X8_thrown rfl rfl rfl (by decide +kernel) ⟨Nat.le_of_ble_eq_true rfl, Nat.le_of_ble_eq_true rfl⟩) hP8 hK (hE.kept hS.2.1) (va_recv hK hP8 (ci := 8) (q0 := 0) rfl rfl) rfl hl.1 rfl (Nat.le_of_ble_eq_true rfl) dL_law_599 ⟨by show cells + 1 + 0 ≤ 601024; omega, by show slots + 6 + 0 ≤ 7293033; omega⟩ ?_
  refine lv_iload hx hb dL_law_602 (lv_at hl 1 rfl) ?_
  refine lv_icmp_eq (tgt := 609) hx hb dL_law_604 (by decide) (fun _ => ?_) (fun h9 => absurd hth h9)
  refine lv_iload hx hb dL_law_609 (lv_at hl 1 rfl) ?_
  refine lv_if_ne (tgt := 626) hx hb dL_law_611 (by decide) (fun _ => ?_) (fun h9 => ?_)
  · refine lv_goto (tgt := 1680) hx hb dL_law_626 (by decide) ?_
    exact kk _ _ _ ⟨f', c', Z', g, hP, hD, hS, hJ1⟩ (lv_sub hl [2, 3, 4, 5, 6] rfl)
  have e9 : f' (nI 0).toNatClampNeg = bb.toInt64 := by rw [nI_clamp (by decide)]; exact han (h9.trans nI_0.symm)
  refine lv_aload_n hx hb dL_law_614 rfl (lv_at hl 5 rfl) ?_
  refine n_iconst hx hb 0 dL_law_615 (by decide) ?_
  refine va_lald hx hb hK hP 0 3 rfl rfl (vp_in_nI (show 0 < 1 by decide) (by decide)) dL_law_616 ?_
  refine lv_iload hx hb dL_law_617 (lv_at hl 0 rfl) ?_
  refine lv_i2l (v := bb.toInt64) hx hb dL_law_619 rfl ?_
  refine W.lcmp hx hb dL_law_620 ?_
  refine lv_if_eq (tgt := 626) hx hb dL_law_621 (by decide) (fun _ => ?_) (fun h9 => absurd (by rw [e9]; exact lg_self _) h9)
  refine lv_goto (tgt := 1680) hx hb dL_law_626 (by decide) ?_
  exact kk _ _ _ ⟨f', c', Z', g, hP, hD, hS, hJ1⟩ (lv_sub hl [2, 3, 4, 5, 6] rfl)
set_option maxHeartbeats 8000000 in
set_option maxRecDepth 100000 in
theorem lc_whistle (E : lwE l p s m c b L xs G T) {i B cells slots : Nat} (hi : i + 3 < L) (hL : L ≤ 2048) (hB : B + 100 < 2 ^ 27) (hcs : cells + 1 ≤ 601024 ∧ slots + 6 ≤ 7293033) {H : Heap} {locs : List Loc} {ls : Array Slot} (hW : lwS s G T a ao q8 B H locs) (hl : lv_has ls 9 (lwV b a ao q8 i)) (kk : ∀ (H : Heap) (locs : List Loc) (ls : Array Slot), lwS s G T a ao q8 (B + 100) H locs → lv_has ls 9 (lwV b a ao q8 i) → W p l e room_1 s m #[Value.ref b] below meth c H locs (cells + 1) (slots + 6) Q (F0 m 1680 ls [])) : W p l e room_1 s m #[Value.ref b] below meth c H locs cells slots Q (F0 m 629 ls []) := by
  obtain ⟨hx, hb, hml, hown, hts, hX, hbl, hst, hK, hE, hgC, hgN⟩ := E
  obtain ⟨f, c9, Z, g, hP, hD, hS, hJ⟩ := hW
  have cx : CallFix p m c cL_law 9 s #[Value.ref b] wsLw RL := ⟨hx, hb, hml, hown, hts⟩
  have hA : ∀ q : Nat, s.heap.size ≤ q → (fun q : Nat => s.heap.size ≤ q) q := fun _ h => h
  have hbA : ¬ (fun q : Nat => s.heap.size ≤ q) b := Nat.not_le.mpr hbl
  have hl : lv_has ls 9 [(0, .ref b), (1, .ref (a.1 0)), (2, .ref (q8 0)), (3, .ref ao), (4, .int (nI i))] := hl
  obtain ⟨d, v, bb, f', c', Z', hd, hL1, hX1, hth, han, hJ1⟩ := st_whistle l hst G T a ao q8 hB f c9 Z (xs (i + 1)) (xs (i + 2)) hJ
  refine lv_aload_n hx hb dL_law_629 rfl (lv_at hl 1 rfl) ?_
  refine lv_aload_n hx hb dL_law_630 rfl (lv_at hl 0 rfl) ?_
  refine lv_iload hx hb dL_law_631 (lv_at hl 4 rfl) ?_
  refine n_iconst hx hb 1 dL_law_633 (by decide) ?_
  refine n_iadd hx hb dL_law_634 ?_
  refine va_sld hx hb hX hbl hbA hS (vp_in_nI (show i + 1 < L by omega) (by omega)) dL_law_635 ?_
  refine n_top (y := xs (i + 1)) (by rw [nI_clamp (by omega)]) ?_
  refine lv_aload_n hx hb dL_law_636 rfl (lv_at hl 0 rfl) ?_
  refine lv_iload hx hb dL_law_637 (lv_at hl 4 rfl) ?_
  refine n_iconst hx hb 2 dL_law_639 (by decide) ?_
  refine n_iadd hx hb dL_law_640 ?_
  refine va_sld hx hb hX hbl hbA hS (vp_in_nI (show i + 2 < L by omega) (by omega)) dL_law_641 ?_
  refine n_top (y := xs (i + 2)) (by rw [nI_clamp (by omega)]) ?_
  refine lv_aload_n hx hb dL_law_642 rfl (lv_at hl 3 rfl) ?_
  refine k_lxS (As := [.ref (a.1 0), .int (xs (i + 1)), .int (xs (i + 2)), .ref ao]) (rest := []) (wc := lwW T ao f a c9 q8 Z g) (wr := []) (w1 := lwW T ao f' a c' q8 Z g) cx (RWx.fr (hL1 H.size) (Fr.tail (wO T ao f ++ oC T a c9) (wO T ao f' ++ oC T a c') (oX8 T q8 Z g))) (vx_cwSW 4 hts hL_L_whistle rfl rfl rfl (by decide +kernel) ⟨by show d + 1 ≤ 17; omega, by show 8 + (_ + 11) + 40 * d ≤ 664; omega⟩) (kN_full hP hD hS hA hE hK) hgC hgN rfl hl.1 rfl (Nat.le_of_ble_eq_true rfl) dL_law_643 hcs (fun H locs hP hD hS hz => ?_)
  have hP : va_P G vwCl (lwW T ao f' a c' q8 Z g) H := hP
  have hD : va_D (fun q : Nat => s.heap.size ≤ q) (lwW T ao f' a c' q8 Z g) := hD
  refine lv_istore (lv' := [(5, .int v), (0, .ref b), (1, .ref (a.1 0)), (2, .ref (q8 0)), (3, .ref ao), (4, .int (nI i))]) hx hb dL_law_646 hl (by decide) rfl (fun ls hl => ?_)
  refine lv_aload_n hx hb dL_law_648 rfl (lv_at hl 3 rfl) ?_
  refine lv_aload_n hx hb dL_law_649 rfl (lv_at hl 1 rfl) ?_
  refine lv_iload hx hb dL_law_650 (lv_at hl 5 rfl) ?_
  refine n_iconst hx hb 1 dL_law_652 (by decide) ?_
  refine n_iadd hx hb dL_law_653 ?_
  refine va_sld hx hb hX hbl hbA hS (vp_in_nI (show i + 1 < L by omega) (by omega)) dL_law_654 ?_
  refine n_top (y := xs (i + 1)) (by rw [nI_clamp (by omega)]) ?_
  refine lv_aload_n hx hb dL_law_655 rfl (lv_at hl 1 rfl) ?_
  refine lv_iload hx hb dL_law_656 (lv_at hl 5 rfl) ?_
  refine n_iconst hx hb 2 dL_law_658 (by decide) ?_
  refine n_iadd hx hb dL_law_659 ?_
  refine va_sld hx hb hX hbl hbA hS (vp_in_nI (show i + 2 < L by omega) (by omega)) dL_law_660 ?_
  refine n_top (y := xs (i + 2)) (by rw [nI_clamp (by omega)]) ?_
  have hP8 := va_Ptl hP
  refine k_rwV (As := [.int (xs (i + 1)), .int (xs (i + 2))]) (rest := []) (wc := lwW T ao f' a c' q8 Z g) (wr := []) (w1 := lwW T ao f' a c' q8 Z' g) (mc := 0) (ms := 0) cx (RWi.fr (hX1 H.size g) (Fr.head (wO T ao f' ++ oC T a c') (oX8 T q8 Z g) (oX8 T q8 Z' g))) (cwV 2 hts hL_X8_whistle rfl rfl rfl (by decide +kernel) ⟨Nat.le_of_ble_eq_true rfl, Nat.le_of_ble_eq_true rfl⟩) (kN_full hP hD hS hA hE hK) (va_recv hK hP8 (ci := 8) (q0 := 0) rfl rfl) rfl hl.1 rfl (Nat.le_of_ble_eq_true rfl) dL_law_661 ⟨by show cells + 1 + 0 ≤ 601024; omega, by show slots + 6 + 0 ≤ 7293033; omega⟩ (fun H locs hP hD hS hz => ?_)
  have hP : va_P G vwCl (lwW T ao f' a c' q8 Z' g) H := hP
  have hD : va_D (fun q : Nat => s.heap.size ≤ q) (lwW T ao f' a c' q8 Z' g) := hD
  refine lv_istore (lv' := [(6, .int bb), (5, .int v), (0, .ref b), (1, .ref (a.1 0)), (2, .ref (q8 0)), (3, .ref ao), (4, .int (nI i))]) hx hb dL_law_664 hl (by decide) rfl (fun ls hl => ?_)
  refine lv_aload_n hx hb dL_law_666 rfl (lv_at hl 4 rfl) ?_
  have hP8 := va_Ptl hP
  refine k_roV (As := []) (rest := []) (wc := oX8 T q8 Z' g) (d := 0) (v := Z' 0 0) cx (c_X8_thrown l G T (fun q : Nat => s.heap.size ≤ q) q8 Z' g) (cwV 0 hts hL_X8_thrown rfl rfl rfl (by decide +kernel) ⟨Nat.le_of_ble_eq_true rfl, Nat.le_of_ble_eq_true rfl⟩) hP8 hK (hE.kept hS.2.1) (va_recv hK hP8 (ci := 8) (q0 := 0) rfl rfl) rfl hl.1 rfl (Nat.le_of_ble_eq_true rfl) dL_law_667 ⟨by show cells + 1 + 0 ≤ 601024; omega, by show slots + 6 + 0 ≤ 7293033; omega⟩ ?_
  refine lv_iload hx hb dL_law_670 (lv_at hl 1 rfl) ?_
  refine lv_icmp_eq (tgt := 677) hx hb dL_law_672 (by decide) (fun _ => ?_) (fun h9 => absurd hth h9)
  refine lv_iload hx hb dL_law_677 (lv_at hl 1 rfl) ?_
  refine lv_if_ne (tgt := 694) hx hb dL_law_679 (by decide) (fun _ => ?_) (fun h9 => ?_)
  · refine lv_goto (tgt := 1680) hx hb dL_law_694 (by decide) ?_
    exact kk _ _ _ ⟨f', c', Z', g, hP, hD, hS, hJ1⟩ (lv_sub hl [2, 3, 4, 5, 6] rfl)
  have e9 : f' (nI 0).toNatClampNeg = bb.toInt64 := by rw [nI_clamp (by decide)]; exact han (h9.trans nI_0.symm)
  refine lv_aload_n hx hb dL_law_682 rfl (lv_at hl 5 rfl) ?_
  refine n_iconst hx hb 0 dL_law_683 (by decide) ?_
  refine va_lald hx hb hK hP 0 3 rfl rfl (vp_in_nI (show 0 < 1 by decide) (by decide)) dL_law_684 ?_
  refine lv_iload hx hb dL_law_685 (lv_at hl 0 rfl) ?_
  refine lv_i2l (v := bb.toInt64) hx hb dL_law_687 rfl ?_
  refine W.lcmp hx hb dL_law_688 ?_
  refine lv_if_eq (tgt := 694) hx hb dL_law_689 (by decide) (fun _ => ?_) (fun h9 => absurd (by rw [e9]; exact lg_self _) h9)
  refine lv_goto (tgt := 1680) hx hb dL_law_694 (by decide) ?_
  exact kk _ _ _ ⟨f', c', Z', g, hP, hD, hS, hJ1⟩ (lv_sub hl [2, 3, 4, 5, 6] rfl)
set_option maxHeartbeats 8000000 in
set_option maxRecDepth 100000 in
theorem lc_append (E : lwE l p s m c b L xs G T) {i B cells slots : Nat} (hi : i + 3 < L) (hL : L ≤ 2048) (hB : B + 100 < 2 ^ 27) (hcs : cells + 1 ≤ 601024 ∧ slots + 6 ≤ 7293033) {H : Heap} {locs : List Loc} {ls : Array Slot} (hW : lwS s G T a ao q8 B H locs) (hl : lv_has ls 9 (lwV b a ao q8 i)) (kk : ∀ (H : Heap) (locs : List Loc) (ls : Array Slot), lwS s G T a ao q8 (B + 100) H locs → lv_has ls 9 (lwV b a ao q8 i) → W p l e room_1 s m #[Value.ref b] below meth c H locs (cells + 1) (slots + 6) Q (F0 m 1680 ls [])) : W p l e room_1 s m #[Value.ref b] below meth c H locs cells slots Q (F0 m 697 ls []) := by
  obtain ⟨hx, hb, hml, hown, hts, hX, hbl, hst, hK, hE, hgC, hgN⟩ := E
  obtain ⟨f, c9, Z, g, hP, hD, hS, hJ⟩ := hW
  have cx : CallFix p m c cL_law 9 s #[Value.ref b] wsLw RL := ⟨hx, hb, hml, hown, hts⟩
  have hA : ∀ q : Nat, s.heap.size ≤ q → (fun q : Nat => s.heap.size ≤ q) q := fun _ h => h
  have hbA : ¬ (fun q : Nat => s.heap.size ≤ q) b := Nat.not_le.mpr hbl
  have hl : lv_has ls 9 [(0, .ref b), (1, .ref (a.1 0)), (2, .ref (q8 0)), (3, .ref ao), (4, .int (nI i))] := hl
  obtain ⟨d, v, bb, f', c', Z', hd, hL1, hX1, hth, han, hJ1⟩ := st_append l hst G T a ao q8 hB f c9 Z (xs (i + 1)) hJ
  refine lv_aload_n hx hb dL_law_697 rfl (lv_at hl 1 rfl) ?_
  refine lv_aload_n hx hb dL_law_698 rfl (lv_at hl 0 rfl) ?_
  refine lv_iload hx hb dL_law_699 (lv_at hl 4 rfl) ?_
  refine n_iconst hx hb 1 dL_law_701 (by decide) ?_
  refine n_iadd hx hb dL_law_702 ?_
  refine va_sld hx hb hX hbl hbA hS (vp_in_nI (show i + 1 < L by omega) (by omega)) dL_law_703 ?_
  refine n_top (y := xs (i + 1)) (by rw [nI_clamp (by omega)]) ?_
  refine lv_aload_n hx hb dL_law_704 rfl (lv_at hl 3 rfl) ?_
  refine k_lxS (As := [.ref (a.1 0), .int (xs (i + 1)), .ref ao]) (rest := []) (wc := lwW T ao f a c9 q8 Z g) (wr := []) (w1 := lwW T ao f' a c' q8 Z g) cx (RWx.fr (hL1 H.size) (Fr.tail (wO T ao f ++ oC T a c9) (wO T ao f' ++ oC T a c') (oX8 T q8 Z g))) (vx_cwSW 3 hts hL_L_append rfl rfl rfl (by decide +kernel) ⟨by show d + 1 ≤ 17; omega, by show 8 + (_ + 11) + 40 * d ≤ 664; omega⟩) (kN_full hP hD hS hA hE hK) hgC hgN rfl hl.1 rfl (Nat.le_of_ble_eq_true rfl) dL_law_705 hcs (fun H locs hP hD hS hz => ?_)
  have hP : va_P G vwCl (lwW T ao f' a c' q8 Z g) H := hP
  have hD : va_D (fun q : Nat => s.heap.size ≤ q) (lwW T ao f' a c' q8 Z g) := hD
  refine lv_istore (lv' := [(5, .int v), (0, .ref b), (1, .ref (a.1 0)), (2, .ref (q8 0)), (3, .ref ao), (4, .int (nI i))]) hx hb dL_law_708 hl (by decide) rfl (fun ls hl => ?_)
  refine lv_aload_n hx hb dL_law_710 rfl (lv_at hl 3 rfl) ?_
  refine lv_aload_n hx hb dL_law_711 rfl (lv_at hl 1 rfl) ?_
  refine lv_iload hx hb dL_law_712 (lv_at hl 5 rfl) ?_
  refine n_iconst hx hb 1 dL_law_714 (by decide) ?_
  refine n_iadd hx hb dL_law_715 ?_
  refine va_sld hx hb hX hbl hbA hS (vp_in_nI (show i + 1 < L by omega) (by omega)) dL_law_716 ?_
  refine n_top (y := xs (i + 1)) (by rw [nI_clamp (by omega)]) ?_
  have hP8 := va_Ptl hP
  refine k_rwV (As := [.int (xs (i + 1))]) (rest := []) (wc := lwW T ao f' a c' q8 Z g) (wr := []) (w1 := lwW T ao f' a c' q8 Z' g) (mc := 0) (ms := 0) cx (RWi.fr (hX1 H.size g) (Fr.head (wO T ao f' ++ oC T a c') (oX8 T q8 Z g) (oX8 T q8 Z' g))) (cwV 1 hts hL_X8_append rfl rfl rfl (by decide +kernel) ⟨Nat.le_of_ble_eq_true rfl, Nat.le_of_ble_eq_true rfl⟩) (kN_full hP hD hS hA hE hK) (va_recv hK hP8 (ci := 8) (q0 := 0) rfl rfl) rfl hl.1 rfl (Nat.le_of_ble_eq_true rfl) dL_law_717 ⟨by show cells + 1 + 0 ≤ 601024; omega, by show slots + 6 + 0 ≤ 7293033; omega⟩ (fun H locs hP hD hS hz => ?_)
  have hP : va_P G vwCl (lwW T ao f' a c' q8 Z' g) H := hP
  have hD : va_D (fun q : Nat => s.heap.size ≤ q) (lwW T ao f' a c' q8 Z' g) := hD
  refine lv_istore (lv' := [(6, .int bb), (5, .int v), (0, .ref b), (1, .ref (a.1 0)), (2, .ref (q8 0)), (3, .ref ao), (4, .int (nI i))]) hx hb dL_law_720 hl (by decide) rfl (fun ls hl => ?_)
  refine lv_aload_n hx hb dL_law_722 rfl (lv_at hl 4 rfl) ?_
  have hP8 := va_Ptl hP
  refine k_roV (As := []) (rest := []) (wc := oX8 T q8 Z' g) (d := 0) (v := Z' 0 0) cx (c_X8_thrown l G T (fun q : Nat => s.heap.size ≤ q) q8 Z' g) (cwV 0 hts hL_X8_thrown rfl rfl rfl (by decide +kernel) ⟨Nat.le_of_ble_eq_true rfl, Nat.le_of_ble_eq_true rfl⟩) hP8 hK (hE.kept hS.2.1) (va_recv hK hP8 (ci := 8) (q0 := 0) rfl rfl) rfl hl.1 rfl (Nat.le_of_ble_eq_true rfl) dL_law_723 ⟨by show cells + 1 + 0 ≤ 601024; omega, by show slots + 6 + 0 ≤ 7293033; omega⟩ ?_
  refine lv_iload hx hb dL_law_726 (lv_at hl 1 rfl) ?_
  refine lv_icmp_eq (tgt := 733) hx hb dL_law_728 (by decide) (fun _ => ?_) (fun h9 => absurd hth h9)
  refine lv_iload hx hb dL_law_733 (lv_at hl 1 rfl) ?_
  refine lv_if_ne (tgt := 750) hx hb dL_law_735 (by decide) (fun _ => ?_) (fun h9 => ?_)
  · refine lv_goto (tgt := 1680) hx hb dL_law_750 (by decide) ?_
    exact kk _ _ _ ⟨f', c', Z', g, hP, hD, hS, hJ1⟩ (lv_sub hl [2, 3, 4, 5, 6] rfl)
  have e9 : f' (nI 0).toNatClampNeg = bb.toInt64 := by rw [nI_clamp (by decide)]; exact han (h9.trans nI_0.symm)
  refine lv_aload_n hx hb dL_law_738 rfl (lv_at hl 5 rfl) ?_
  refine n_iconst hx hb 0 dL_law_739 (by decide) ?_
  refine va_lald hx hb hK hP 0 3 rfl rfl (vp_in_nI (show 0 < 1 by decide) (by decide)) dL_law_740 ?_
  refine lv_iload hx hb dL_law_741 (lv_at hl 0 rfl) ?_
  refine lv_i2l (v := bb.toInt64) hx hb dL_law_743 rfl ?_
  refine W.lcmp hx hb dL_law_744 ?_
  refine lv_if_eq (tgt := 750) hx hb dL_law_745 (by decide) (fun _ => ?_) (fun h9 => absurd (by rw [e9]; exact lg_self _) h9)
  refine lv_goto (tgt := 1680) hx hb dL_law_750 (by decide) ?_
  exact kk _ _ _ ⟨f', c', Z', g, hP, hD, hS, hJ1⟩ (lv_sub hl [2, 3, 4, 5, 6] rfl)
set_option maxHeartbeats 8000000 in
set_option maxRecDepth 100000 in
theorem lc_clearBuffer (E : lwE l p s m c b L xs G T) {i B cells slots : Nat} (hi : i + 3 < L) (hL : L ≤ 2048) (hB : B + 100 < 2 ^ 27) (hcs : cells + 1 ≤ 601024 ∧ slots + 6 ≤ 7293033) {H : Heap} {locs : List Loc} {ls : Array Slot} (hW : lwS s G T a ao q8 B H locs) (hl : lv_has ls 9 (lwV b a ao q8 i)) (kk : ∀ (H : Heap) (locs : List Loc) (ls : Array Slot), lwS s G T a ao q8 (B + 100) H locs → lv_has ls 9 (lwV b a ao q8 i) → W p l e room_1 s m #[Value.ref b] below meth c H locs (cells + 1) (slots + 6) Q (F0 m 1680 ls [])) : W p l e room_1 s m #[Value.ref b] below meth c H locs cells slots Q (F0 m 753 ls []) := by
  obtain ⟨hx, hb, hml, hown, hts, hX, hbl, hst, hK, hE, hgC, hgN⟩ := E
  obtain ⟨f, c9, Z, g, hP, hD, hS, hJ⟩ := hW
  have cx : CallFix p m c cL_law 9 s #[Value.ref b] wsLw RL := ⟨hx, hb, hml, hown, hts⟩
  have hA : ∀ q : Nat, s.heap.size ≤ q → (fun q : Nat => s.heap.size ≤ q) q := fun _ h => h
  have hbA : ¬ (fun q : Nat => s.heap.size ≤ q) b := Nat.not_le.mpr hbl
  have hl : lv_has ls 9 [(0, .ref b), (1, .ref (a.1 0)), (2, .ref (q8 0)), (3, .ref ao), (4, .int (nI i))] := hl
  obtain ⟨v, bb, c', Z', hL1, hX1, hvb, hJ1⟩ := st_clearBuffer l G T a q8 hB c9 Z hJ
  refine lv_aload_n hx hb dL_law_753 rfl (lv_at hl 1 rfl) ?_
  refine k_rwV (As := []) (rest := []) (wc := lwW T ao f a c9 q8 Z g) (wr := []) (w1 := lwW T ao f a c' q8 Z g) (mc := 0) (ms := 0) cx (RWi.fr (RWi.fr (hL1 H.size) (Fr.head (wO T ao f) (oC T a c9) (oC T a c'))) (Fr.tail (wO T ao f ++ oC T a c9) (wO T ao f ++ oC T a c') (oX8 T q8 Z g))) (cwV 0 hts hL_X7_clearBuffer rfl rfl rfl (by decide +kernel) ⟨Nat.le_of_ble_eq_true rfl, Nat.le_of_ble_eq_true rfl⟩) (kN_full hP hD hS hA hE hK) (va_recv hK hP (ci := 7) (q0 := 1) rfl rfl) rfl hl.1 rfl (Nat.le_of_ble_eq_true rfl) dL_law_754 ⟨by show cells + 0 ≤ 601024; omega, by show slots + 0 ≤ 7293033; omega⟩ (fun H locs hP hD hS hz => ?_)
  have hP : va_P G vwCl (lwW T ao f a c' q8 Z g) H := hP
  have hD : va_D (fun q : Nat => s.heap.size ≤ q) (lwW T ao f a c' q8 Z g) := hD
  refine lv_aload_n hx hb dL_law_757 rfl (lv_at hl 2 rfl) ?_
  have hP8 := va_Ptl hP
  refine k_rwV (As := []) (rest := [.int v]) (wc := lwW T ao f a c' q8 Z g) (wr := []) (w1 := lwW T ao f a c' q8 Z' g) (mc := 0) (ms := 0) cx (RWi.fr (hX1 H.size g) (Fr.head (wO T ao f ++ oC T a c') (oX8 T q8 Z g) (oX8 T q8 Z' g))) (cwV 0 hts hL_X8_clearBuffer rfl rfl rfl (by decide +kernel) ⟨Nat.le_of_ble_eq_true rfl, Nat.le_of_ble_eq_true rfl⟩) (kN_full hP hD hS hA hE hK) (va_recv hK hP8 (ci := 8) (q0 := 0) rfl rfl) rfl hl.1 rfl (Nat.le_of_ble_eq_true rfl) dL_law_758 ⟨by show cells + 0 + 0 ≤ 601024; omega, by show slots + 0 + 0 ≤ 7293033; omega⟩ (fun H locs hP hD hS hz => ?_)
  have hP : va_P G vwCl (lwW T ao f a c' q8 Z' g) H := hP
  have hD : va_D (fun q : Nat => s.heap.size ≤ q) (lwW T ao f a c' q8 Z' g) := hD
  refine lv_icmp_eq (tgt := 1680) hx hb dL_law_761 (by decide) (fun _ => ?_) (fun h9 => absurd hvb h9)
  exact W.widen (k := cells + 1) (n := slots + 6) (by omega) (by omega) (kk _ _ _ ⟨f, c', Z', g, hP, hD, hS, hJ1⟩ hl)
set_option maxHeartbeats 8000000 in
set_option maxRecDepth 100000 in
theorem lc_firstError (E : lwE l p s m c b L xs G T) {i B cells slots : Nat} (hi : i + 3 < L) (hL : L ≤ 2048) (hB : B + 100 < 2 ^ 27) (hcs : cells + 1 ≤ 601024 ∧ slots + 6 ≤ 7293033) {H : Heap} {locs : List Loc} {ls : Array Slot} (hW : lwS s G T a ao q8 B H locs) (hl : lv_has ls 9 (lwV b a ao q8 i)) (kk : ∀ (H : Heap) (locs : List Loc) (ls : Array Slot), lwS s G T a ao q8 (B + 100) H locs → lv_has ls 9 (lwV b a ao q8 i) → W p l e room_1 s m #[Value.ref b] below meth c H locs (cells + 1) (slots + 6) Q (F0 m 1680 ls [])) : W p l e room_1 s m #[Value.ref b] below meth c H locs cells slots Q (F0 m 766 ls []) := by
  obtain ⟨hx, hb, hml, hown, hts, hX, hbl, hst, hK, hE, hgC, hgN⟩ := E
  obtain ⟨f, c9, Z, g, hP, hD, hS, hJ⟩ := hW
  have cx : CallFix p m c cL_law 9 s #[Value.ref b] wsLw RL := ⟨hx, hb, hml, hown, hts⟩
  have hA : ∀ q : Nat, s.heap.size ≤ q → (fun q : Nat => s.heap.size ≤ q) q := fun _ h => h
  have hbA : ¬ (fun q : Nat => s.heap.size ≤ q) b := Nat.not_le.mpr hbl
  have hl : lv_has ls 9 [(0, .ref b), (1, .ref (a.1 0)), (2, .ref (q8 0)), (3, .ref ao), (4, .int (nI i))] := hl
  obtain ⟨v, bb, c', Z', hL1, hX1, hvb, hJ1⟩ := st_firstError l G T a q8 hB c9 Z hJ
  refine lv_aload_n hx hb dL_law_766 rfl (lv_at hl 1 rfl) ?_
  refine k_rwV (As := []) (rest := []) (wc := lwW T ao f a c9 q8 Z g) (wr := []) (w1 := lwW T ao f a c' q8 Z g) (mc := 0) (ms := 0) cx (RWi.fr (RWi.fr (hL1 H.size) (Fr.head (wO T ao f) (oC T a c9) (oC T a c'))) (Fr.tail (wO T ao f ++ oC T a c9) (wO T ao f ++ oC T a c') (oX8 T q8 Z g))) (cwV 0 hts hL_X7_firstError rfl rfl rfl (by decide +kernel) ⟨Nat.le_of_ble_eq_true rfl, Nat.le_of_ble_eq_true rfl⟩) (kN_full hP hD hS hA hE hK) (va_recv hK hP (ci := 7) (q0 := 1) rfl rfl) rfl hl.1 rfl (Nat.le_of_ble_eq_true rfl) dL_law_767 ⟨by show cells + 0 ≤ 601024; omega, by show slots + 0 ≤ 7293033; omega⟩ (fun H locs hP hD hS hz => ?_)
  have hP : va_P G vwCl (lwW T ao f a c' q8 Z g) H := hP
  have hD : va_D (fun q : Nat => s.heap.size ≤ q) (lwW T ao f a c' q8 Z g) := hD
  refine lv_aload_n hx hb dL_law_770 rfl (lv_at hl 2 rfl) ?_
  have hP8 := va_Ptl hP
  refine k_rwV (As := []) (rest := [.int v]) (wc := lwW T ao f a c' q8 Z g) (wr := []) (w1 := lwW T ao f a c' q8 Z' g) (mc := 0) (ms := 0) cx (RWi.fr (hX1 H.size g) (Fr.head (wO T ao f ++ oC T a c') (oX8 T q8 Z g) (oX8 T q8 Z' g))) (cwV 0 hts hL_X8_firstError rfl rfl rfl (by decide +kernel) ⟨Nat.le_of_ble_eq_true rfl, Nat.le_of_ble_eq_true rfl⟩) (kN_full hP hD hS hA hE hK) (va_recv hK hP8 (ci := 8) (q0 := 0) rfl rfl) rfl hl.1 rfl (Nat.le_of_ble_eq_true rfl) dL_law_771 ⟨by show cells + 0 + 0 ≤ 601024; omega, by show slots + 0 + 0 ≤ 7293033; omega⟩ (fun H locs hP hD hS hz => ?_)
  have hP : va_P G vwCl (lwW T ao f a c' q8 Z' g) H := hP
  have hD : va_D (fun q : Nat => s.heap.size ≤ q) (lwW T ao f a c' q8 Z' g) := hD
  refine lv_icmp_eq (tgt := 1680) hx hb dL_law_774 (by decide) (fun _ => ?_) (fun h9 => absurd hvb h9)
  exact W.widen (k := cells + 1) (n := slots + 6) (by omega) (by omega) (kk _ _ _ ⟨f, c', Z', g, hP, hD, hS, hJ1⟩ hl)
end LC
