/-! the law's cases 18 to 23 (printed by wip/whole/mklc.py) -/
section LC
variable {p : Program} {l : Launch} {e : Env} {s : State} {m : MethodId} {below : List Frame} {meth : Method} {c : Code} {b L : Nat} {xs : Nat → Int32} {G : va_G} {T : Nat → ClassId} {a : CA} {ao : Nat} {q8 : Nat → Nat} {Q : State → Prop}
set_option maxHeartbeats 8000000 in
set_option maxRecDepth 100000 in
theorem lc_message (E : lwE l p s m c b L xs G T) {i B cells slots : Nat} (hi : i + 3 < L) (hL : L ≤ 2048) (hB : B + 100 < 2 ^ 27) (hcs : cells + 1 ≤ 601024 ∧ slots + 6 ≤ 7293033) {H : Heap} {locs : List Loc} {ls : Array Slot} (hW : lwS s G T a ao q8 B H locs) (hl : lv_has ls 9 (lwV b a ao q8 i)) (kk : ∀ (H : Heap) (locs : List Loc) (ls : Array Slot), lwS s G T a ao q8 (B + 100) H locs → lv_has ls 9 (lwV b a ao q8 i) → W p l e room_1 s m #[Value.ref b] below meth c H locs (cells + 1) (slots + 6) Q (F0 m 1680 ls [])) : W p l e room_1 s m #[Value.ref b] below meth c H locs cells slots Q (F0 m 993 ls []) := by
  obtain ⟨hx, hb, hml, hown, hts, hX, hbl, hst, hK, hE, hgC, hgN⟩ := E
  obtain ⟨f, c9, Z, g, hP, hD, hS, hJ⟩ := hW
  have cx : CallFix p m c cL_law 9 s #[Value.ref b] wsLw RL := ⟨hx, hb, hml, hown, hts⟩
  have hA : ∀ q : Nat, s.heap.size ≤ q → (fun q : Nat => s.heap.size ≤ q) q := fun _ h => h
  have hbA : ¬ (fun q : Nat => s.heap.size ≤ q) b := Nat.not_le.mpr hbl
  have hl : lv_has ls 9 [(0, .ref b), (1, .ref (a.1 0)), (2, .ref (q8 0)), (3, .ref ao), (4, .int (nI i))] := hl
  obtain ⟨d, v, bb, f', c', Z', hd, hL1, hX1, hth, han, hJ1⟩ := st_message l hst G T a ao q8 hB f c9 Z (xs (i + 1)) (xs (i + 2)) hJ
  refine lv_aload_n hx hb dL_law_993 rfl (lv_at hl 1 rfl) ?_
  refine lv_aload_n hx hb dL_law_994 rfl (lv_at hl 0 rfl) ?_
  refine lv_iload hx hb dL_law_995 (lv_at hl 4 rfl) ?_
  refine n_iconst hx hb 1 dL_law_997 (by decide) ?_
  refine n_iadd hx hb dL_law_998 ?_
  refine va_sld hx hb hX hbl hbA hS (vp_in_nI (show i + 1 < L by omega) (by omega)) dL_law_999 ?_
  refine n_top (y := xs (i + 1)) (by rw [nI_clamp (by omega)]) ?_
  refine lv_aload_n hx hb dL_law_1000 rfl (lv_at hl 0 rfl) ?_
  refine lv_iload hx hb dL_law_1001 (lv_at hl 4 rfl) ?_
  refine n_iconst hx hb 2 dL_law_1003 (by decide) ?_
  refine n_iadd hx hb dL_law_1004 ?_
  refine va_sld hx hb hX hbl hbA hS (vp_in_nI (show i + 2 < L by omega) (by omega)) dL_law_1005 ?_
  refine n_top (y := xs (i + 2)) (by rw [nI_clamp (by omega)]) ?_
  refine lv_aload_n hx hb dL_law_1006 rfl (lv_at hl 3 rfl) ?_
  refine k_lxS (As := [.ref (a.1 0), .int (xs (i + 1)), .int (xs (i + 2)), .ref ao]) (rest := []) (wc := lwW T ao f a c9 q8 Z g) (wr := []) (w1 := lwW T ao f' a c' q8 Z g) cx (RWx.fr (hL1 H.size) (Fr.tail (wO T ao f ++ oC T a c9) (wO T ao f' ++ oC T a c') (oX8 T q8 Z g))) (vx_cwSW 4 hts hL_L_message rfl rfl rfl (by decide +kernel) ⟨by show d + 1 ≤ 17; omega, by show 8 + (_ + 11) + 40 * d ≤ 664; omega⟩) (kN_full hP hD hS hA hE hK) hgC hgN rfl hl.1 rfl (Nat.le_of_ble_eq_true rfl) dL_law_1007 hcs (fun H locs hP hD hS hz => ?_)
  have hP : va_P G vwCl (lwW T ao f' a c' q8 Z g) H := hP
  have hD : va_D (fun q : Nat => s.heap.size ≤ q) (lwW T ao f' a c' q8 Z g) := hD
  refine lv_istore (lv' := [(5, .int v), (0, .ref b), (1, .ref (a.1 0)), (2, .ref (q8 0)), (3, .ref ao), (4, .int (nI i))]) hx hb dL_law_1010 hl (by decide) rfl (fun ls hl => ?_)
  refine lv_aload_n hx hb dL_law_1012 rfl (lv_at hl 3 rfl) ?_
  refine lv_aload_n hx hb dL_law_1013 rfl (lv_at hl 1 rfl) ?_
  refine lv_iload hx hb dL_law_1014 (lv_at hl 5 rfl) ?_
  refine n_iconst hx hb 1 dL_law_1016 (by decide) ?_
  refine n_iadd hx hb dL_law_1017 ?_
  refine va_sld hx hb hX hbl hbA hS (vp_in_nI (show i + 1 < L by omega) (by omega)) dL_law_1018 ?_
  refine n_top (y := xs (i + 1)) (by rw [nI_clamp (by omega)]) ?_
  refine lv_aload_n hx hb dL_law_1019 rfl (lv_at hl 1 rfl) ?_
  refine lv_iload hx hb dL_law_1020 (lv_at hl 5 rfl) ?_
  refine n_iconst hx hb 2 dL_law_1022 (by decide) ?_
  refine n_iadd hx hb dL_law_1023 ?_
  refine va_sld hx hb hX hbl hbA hS (vp_in_nI (show i + 2 < L by omega) (by omega)) dL_law_1024 ?_
  refine n_top (y := xs (i + 2)) (by rw [nI_clamp (by omega)]) ?_
  have hP8 := va_Ptl hP
  refine k_rwV (As := [.int (xs (i + 1)), .int (xs (i + 2))]) (rest := []) (wc := lwW T ao f' a c' q8 Z g) (wr := []) (w1 := lwW T ao f' a c' q8 Z' g) (mc := 0) (ms := 0) cx (RWi.fr (hX1 H.size g) (Fr.head (wO T ao f' ++ oC T a c') (oX8 T q8 Z g) (oX8 T q8 Z' g))) (cwV 2 hts hL_X8_message rfl rfl rfl (by decide +kernel) ⟨Nat.le_of_ble_eq_true rfl, Nat.le_of_ble_eq_true rfl⟩) (kN_full hP hD hS hA hE hK) (va_recv hK hP8 (ci := 8) (q0 := 0) rfl rfl) rfl hl.1 rfl (Nat.le_of_ble_eq_true rfl) dL_law_1025 ⟨by show cells + 1 + 0 ≤ 601024; omega, by show slots + 6 + 0 ≤ 7293033; omega⟩ (fun H locs hP hD hS hz => ?_)
  have hP : va_P G vwCl (lwW T ao f' a c' q8 Z' g) H := hP
  have hD : va_D (fun q : Nat => s.heap.size ≤ q) (lwW T ao f' a c' q8 Z' g) := hD
  refine lv_istore (lv' := [(6, .int bb), (5, .int v), (0, .ref b), (1, .ref (a.1 0)), (2, .ref (q8 0)), (3, .ref ao), (4, .int (nI i))]) hx hb dL_law_1028 hl (by decide) rfl (fun ls hl => ?_)
  refine lv_aload_n hx hb dL_law_1030 rfl (lv_at hl 4 rfl) ?_
  have hP8 := va_Ptl hP
  refine k_roV (As := []) (rest := []) (wc := oX8 T q8 Z' g) (d := 0) (v := Z' 0 0) cx (c_X8_thrown l G T (fun q : Nat => s.heap.size ≤ q) q8 Z' g) (cwV 0 hts hL_X8_thrown rfl rfl rfl (by decide +kernel) ⟨Nat.le_of_ble_eq_true rfl, Nat.le_of_ble_eq_true rfl⟩) hP8 hK (hE.kept hS.2.1) (va_recv hK hP8 (ci := 8) (q0 := 0) rfl rfl) rfl hl.1 rfl (Nat.le_of_ble_eq_true rfl) dL_law_1031 ⟨by show cells + 1 + 0 ≤ 601024; omega, by show slots + 6 + 0 ≤ 7293033; omega⟩ ?_
  refine lv_iload hx hb dL_law_1034 (lv_at hl 1 rfl) ?_
  refine lv_icmp_eq (tgt := 1041) hx hb dL_law_1036 (by decide) (fun _ => ?_) (fun h9 => absurd hth h9)
  refine lv_iload hx hb dL_law_1041 (lv_at hl 1 rfl) ?_
  refine lv_if_ne (tgt := 1058) hx hb dL_law_1043 (by decide) (fun _ => ?_) (fun h9 => ?_)
  · refine lv_goto (tgt := 1680) hx hb dL_law_1058 (by decide) ?_
    exact kk _ _ _ ⟨f', c', Z', g, hP, hD, hS, hJ1⟩ (lv_sub hl [2, 3, 4, 5, 6] rfl)
  have e9 : f' (nI 0).toNatClampNeg = bb.toInt64 := by rw [nI_clamp (by decide)]; exact han (h9.trans nI_0.symm)
  refine lv_aload_n hx hb dL_law_1046 rfl (lv_at hl 5 rfl) ?_
  refine n_iconst hx hb 0 dL_law_1047 (by decide) ?_
  refine va_lald hx hb hK hP 0 3 rfl rfl (vp_in_nI (show 0 < 1 by decide) (by decide)) dL_law_1048 ?_
  refine lv_iload hx hb dL_law_1049 (lv_at hl 0 rfl) ?_
  refine lv_i2l (v := bb.toInt64) hx hb dL_law_1051 rfl ?_
  refine W.lcmp hx hb dL_law_1052 ?_
  refine lv_if_eq (tgt := 1058) hx hb dL_law_1053 (by decide) (fun _ => ?_) (fun h9 => absurd (by rw [e9]; exact lg_self _) h9)
  refine lv_goto (tgt := 1680) hx hb dL_law_1058 (by decide) ?_
  exact kk _ _ _ ⟨f', c', Z', g, hP, hD, hS, hJ1⟩ (lv_sub hl [2, 3, 4, 5, 6] rfl)
set_option maxHeartbeats 8000000 in
set_option maxRecDepth 100000 in
theorem lc_note (E : lwE l p s m c b L xs G T) {i B cells slots : Nat} (hi : i + 3 < L) (hL : L ≤ 2048) (hB : B + 100 < 2 ^ 27) (hcs : cells + 1 ≤ 601024 ∧ slots + 6 ≤ 7293033) {H : Heap} {locs : List Loc} {ls : Array Slot} (hW : lwS s G T a ao q8 B H locs) (hl : lv_has ls 9 (lwV b a ao q8 i)) (kk : ∀ (H : Heap) (locs : List Loc) (ls : Array Slot), lwS s G T a ao q8 (B + 100) H locs → lv_has ls 9 (lwV b a ao q8 i) → W p l e room_1 s m #[Value.ref b] below meth c H locs (cells + 1) (slots + 6) Q (F0 m 1680 ls [])) : W p l e room_1 s m #[Value.ref b] below meth c H locs cells slots Q (F0 m 1061 ls []) := by
  obtain ⟨hx, hb, hml, hown, hts, hX, hbl, hst, hK, hE, hgC, hgN⟩ := E
  obtain ⟨f, c9, Z, g, hP, hD, hS, hJ⟩ := hW
  have cx : CallFix p m c cL_law 9 s #[Value.ref b] wsLw RL := ⟨hx, hb, hml, hown, hts⟩
  have hA : ∀ q : Nat, s.heap.size ≤ q → (fun q : Nat => s.heap.size ≤ q) q := fun _ h => h
  have hbA : ¬ (fun q : Nat => s.heap.size ≤ q) b := Nat.not_le.mpr hbl
  have hl : lv_has ls 9 [(0, .ref b), (1, .ref (a.1 0)), (2, .ref (q8 0)), (3, .ref ao), (4, .int (nI i))] := hl
  obtain ⟨d, v, bb, f', c', Z', hd, hL1, hX1, hth, han, hJ1⟩ := st_note l hst G T a ao q8 hB f c9 Z (xs (i + 1)) (xs (i + 2)) hJ
  refine lv_aload_n hx hb dL_law_1061 rfl (lv_at hl 1 rfl) ?_
  refine lv_aload_n hx hb dL_law_1062 rfl (lv_at hl 0 rfl) ?_
  refine lv_iload hx hb dL_law_1063 (lv_at hl 4 rfl) ?_
  refine n_iconst hx hb 1 dL_law_1065 (by decide) ?_
  refine n_iadd hx hb dL_law_1066 ?_
  refine va_sld hx hb hX hbl hbA hS (vp_in_nI (show i + 1 < L by omega) (by omega)) dL_law_1067 ?_
  refine n_top (y := xs (i + 1)) (by rw [nI_clamp (by omega)]) ?_
  refine lv_aload_n hx hb dL_law_1068 rfl (lv_at hl 0 rfl) ?_
  refine lv_iload hx hb dL_law_1069 (lv_at hl 4 rfl) ?_
  refine n_iconst hx hb 2 dL_law_1071 (by decide) ?_
  refine n_iadd hx hb dL_law_1072 ?_
  refine va_sld hx hb hX hbl hbA hS (vp_in_nI (show i + 2 < L by omega) (by omega)) dL_law_1073 ?_
  refine n_top (y := xs (i + 2)) (by rw [nI_clamp (by omega)]) ?_
  refine lv_aload_n hx hb dL_law_1074 rfl (lv_at hl 3 rfl) ?_
  refine k_lxS (As := [.ref (a.1 0), .int (xs (i + 1)), .int (xs (i + 2)), .ref ao]) (rest := []) (wc := lwW T ao f a c9 q8 Z g) (wr := []) (w1 := lwW T ao f' a c' q8 Z g) cx (RWx.fr (hL1 H.size) (Fr.tail (wO T ao f ++ oC T a c9) (wO T ao f' ++ oC T a c') (oX8 T q8 Z g))) (vx_cwSW 4 hts hL_L_note rfl rfl rfl (by decide +kernel) ⟨by show d + 1 ≤ 17; omega, by show 8 + (_ + 11) + 40 * d ≤ 664; omega⟩) (kN_full hP hD hS hA hE hK) hgC hgN rfl hl.1 rfl (Nat.le_of_ble_eq_true rfl) dL_law_1075 hcs (fun H locs hP hD hS hz => ?_)
  have hP : va_P G vwCl (lwW T ao f' a c' q8 Z g) H := hP
  have hD : va_D (fun q : Nat => s.heap.size ≤ q) (lwW T ao f' a c' q8 Z g) := hD
  refine lv_istore (lv' := [(5, .int v), (0, .ref b), (1, .ref (a.1 0)), (2, .ref (q8 0)), (3, .ref ao), (4, .int (nI i))]) hx hb dL_law_1078 hl (by decide) rfl (fun ls hl => ?_)
  refine lv_aload_n hx hb dL_law_1080 rfl (lv_at hl 3 rfl) ?_
  refine lv_aload_n hx hb dL_law_1081 rfl (lv_at hl 1 rfl) ?_
  refine lv_iload hx hb dL_law_1082 (lv_at hl 5 rfl) ?_
  refine n_iconst hx hb 1 dL_law_1084 (by decide) ?_
  refine n_iadd hx hb dL_law_1085 ?_
  refine va_sld hx hb hX hbl hbA hS (vp_in_nI (show i + 1 < L by omega) (by omega)) dL_law_1086 ?_
  refine n_top (y := xs (i + 1)) (by rw [nI_clamp (by omega)]) ?_
  refine lv_aload_n hx hb dL_law_1087 rfl (lv_at hl 1 rfl) ?_
  refine lv_iload hx hb dL_law_1088 (lv_at hl 5 rfl) ?_
  refine n_iconst hx hb 2 dL_law_1090 (by decide) ?_
  refine n_iadd hx hb dL_law_1091 ?_
  refine va_sld hx hb hX hbl hbA hS (vp_in_nI (show i + 2 < L by omega) (by omega)) dL_law_1092 ?_
  refine n_top (y := xs (i + 2)) (by rw [nI_clamp (by omega)]) ?_
  have hP8 := va_Ptl hP
  refine k_rwV (As := [.int (xs (i + 1)), .int (xs (i + 2))]) (rest := []) (wc := lwW T ao f' a c' q8 Z g) (wr := []) (w1 := lwW T ao f' a c' q8 Z' g) (mc := 0) (ms := 0) cx (RWi.fr (hX1 H.size g) (Fr.head (wO T ao f' ++ oC T a c') (oX8 T q8 Z g) (oX8 T q8 Z' g))) (cwV 2 hts hL_X8_note rfl rfl rfl (by decide +kernel) ⟨Nat.le_of_ble_eq_true rfl, Nat.le_of_ble_eq_true rfl⟩) (kN_full hP hD hS hA hE hK) (va_recv hK hP8 (ci := 8) (q0 := 0) rfl rfl) rfl hl.1 rfl (Nat.le_of_ble_eq_true rfl) dL_law_1093 ⟨by show cells + 1 + 0 ≤ 601024; omega, by show slots + 6 + 0 ≤ 7293033; omega⟩ (fun H locs hP hD hS hz => ?_)
  have hP : va_P G vwCl (lwW T ao f' a c' q8 Z' g) H := hP
  have hD : va_D (fun q : Nat => s.heap.size ≤ q) (lwW T ao f' a c' q8 Z' g) := hD
  refine lv_istore (lv' := [(6, .int bb), (5, .int v), (0, .ref b), (1, .ref (a.1 0)), (2, .ref (q8 0)), (3, .ref ao), (4, .int (nI i))]) hx hb dL_law_1096 hl (by decide) rfl (fun ls hl => ?_)
  refine lv_aload_n hx hb dL_law_1098 rfl (lv_at hl 4 rfl) ?_
  have hP8 := va_Ptl hP
  refine k_roV (As := []) (rest := []) (wc := oX8 T q8 Z' g) (d := 0) (v := Z' 0 0) cx (c_X8_thrown l G T (fun q : Nat => s.heap.size ≤ q) q8 Z' g) (cwV 0 hts hL_X8_thrown rfl rfl rfl (by decide +kernel) ⟨Nat.le_of_ble_eq_true rfl, Nat.le_of_ble_eq_true rfl⟩) hP8 hK (hE.kept hS.2.1) (va_recv hK hP8 (ci := 8) (q0 := 0) rfl rfl) rfl hl.1 rfl (Nat.le_of_ble_eq_true rfl) dL_law_1099 ⟨by show cells + 1 + 0 ≤ 601024; omega, by show slots + 6 + 0 ≤ 7293033; omega⟩ ?_
  refine lv_iload hx hb dL_law_1102 (lv_at hl 1 rfl) ?_
  refine lv_icmp_eq (tgt := 1109) hx hb dL_law_1104 (by decide) (fun _ => ?_) (fun h9 => absurd hth h9)
  refine lv_iload hx hb dL_law_1109 (lv_at hl 1 rfl) ?_
  refine lv_if_ne (tgt := 1126) hx hb dL_law_1111 (by decide) (fun _ => ?_) (fun h9 => ?_)
  · refine lv_goto (tgt := 1680) hx hb dL_law_1126 (by decide) ?_
    exact kk _ _ _ ⟨f', c', Z', g, hP, hD, hS, hJ1⟩ (lv_sub hl [2, 3, 4, 5, 6] rfl)
  have e9 : f' (nI 0).toNatClampNeg = bb.toInt64 := by rw [nI_clamp (by decide)]; exact han (h9.trans nI_0.symm)
  refine lv_aload_n hx hb dL_law_1114 rfl (lv_at hl 5 rfl) ?_
  refine n_iconst hx hb 0 dL_law_1115 (by decide) ?_
  refine va_lald hx hb hK hP 0 3 rfl rfl (vp_in_nI (show 0 < 1 by decide) (by decide)) dL_law_1116 ?_
  refine lv_iload hx hb dL_law_1117 (lv_at hl 0 rfl) ?_
  refine lv_i2l (v := bb.toInt64) hx hb dL_law_1119 rfl ?_
  refine W.lcmp hx hb dL_law_1120 ?_
  refine lv_if_eq (tgt := 1126) hx hb dL_law_1121 (by decide) (fun _ => ?_) (fun h9 => absurd (by rw [e9]; exact lg_self _) h9)
  refine lv_goto (tgt := 1680) hx hb dL_law_1126 (by decide) ?_
  exact kk _ _ _ ⟨f', c', Z', g, hP, hD, hS, hJ1⟩ (lv_sub hl [2, 3, 4, 5, 6] rfl)
set_option maxHeartbeats 8000000 in
set_option maxRecDepth 100000 in
theorem lc_room (E : lwE l p s m c b L xs G T) {i B cells slots : Nat} (hi : i + 3 < L) (hL : L ≤ 2048) (hB : B + 100 < 2 ^ 27) (hcs : cells + 1 ≤ 601024 ∧ slots + 6 ≤ 7293033) {H : Heap} {locs : List Loc} {ls : Array Slot} (hW : lwS s G T a ao q8 B H locs) (hl : lv_has ls 9 (lwV b a ao q8 i)) (kk : ∀ (H : Heap) (locs : List Loc) (ls : Array Slot), lwS s G T a ao q8 (B + 100) H locs → lv_has ls 9 (lwV b a ao q8 i) → W p l e room_1 s m #[Value.ref b] below meth c H locs (cells + 1) (slots + 6) Q (F0 m 1680 ls [])) : W p l e room_1 s m #[Value.ref b] below meth c H locs cells slots Q (F0 m 1129 ls []) := by
  obtain ⟨hx, hb, hml, hown, hts, hX, hbl, hst, hK, hE, hgC, hgN⟩ := E
  obtain ⟨f, c9, Z, g, hP, hD, hS, hJ⟩ := hW
  have cx : CallFix p m c cL_law 9 s #[Value.ref b] wsLw RL := ⟨hx, hb, hml, hown, hts⟩
  have hA : ∀ q : Nat, s.heap.size ≤ q → (fun q : Nat => s.heap.size ≤ q) q := fun _ h => h
  have hbA : ¬ (fun q : Nat => s.heap.size ≤ q) b := Nat.not_le.mpr hbl
  have hl : lv_has ls 9 [(0, .ref b), (1, .ref (a.1 0)), (2, .ref (q8 0)), (3, .ref ao), (4, .int (nI i))] := hl
  obtain ⟨d, v, bb, f', c', Z', hd, hL1, hX1, hth, han, hJ1⟩ := st_room l hst G T a ao q8 hB f c9 Z (xs (i + 1)) (xs (i + 2)) hJ
  refine lv_aload_n hx hb dL_law_1129 rfl (lv_at hl 1 rfl) ?_
  refine lv_aload_n hx hb dL_law_1130 rfl (lv_at hl 0 rfl) ?_
  refine lv_iload hx hb dL_law_1131 (lv_at hl 4 rfl) ?_
  refine n_iconst hx hb 1 dL_law_1133 (by decide) ?_
  refine n_iadd hx hb dL_law_1134 ?_
  refine va_sld hx hb hX hbl hbA hS (vp_in_nI (show i + 1 < L by omega) (by omega)) dL_law_1135 ?_
  refine n_top (y := xs (i + 1)) (by rw [nI_clamp (by omega)]) ?_
  refine lv_aload_n hx hb dL_law_1136 rfl (lv_at hl 0 rfl) ?_
  refine lv_iload hx hb dL_law_1137 (lv_at hl 4 rfl) ?_
  refine n_iconst hx hb 2 dL_law_1139 (by decide) ?_
  refine n_iadd hx hb dL_law_1140 ?_
  refine va_sld hx hb hX hbl hbA hS (vp_in_nI (show i + 2 < L by omega) (by omega)) dL_law_1141 ?_
  refine n_top (y := xs (i + 2)) (by rw [nI_clamp (by omega)]) ?_
  refine lv_aload_n hx hb dL_law_1142 rfl (lv_at hl 3 rfl) ?_
  refine k_lxS (As := [.ref (a.1 0), .int (xs (i + 1)), .int (xs (i + 2)), .ref ao]) (rest := []) (wc := lwW T ao f a c9 q8 Z g) (wr := []) (w1 := lwW T ao f' a c' q8 Z g) cx (RWx.fr (hL1 H.size) (Fr.tail (wO T ao f ++ oC T a c9) (wO T ao f' ++ oC T a c') (oX8 T q8 Z g))) (vx_cwSW 4 hts hL_L_room rfl rfl rfl (by decide +kernel) ⟨by show d + 1 ≤ 17; omega, by show 8 + (_ + 11) + 40 * d ≤ 664; omega⟩) (kN_full hP hD hS hA hE hK) hgC hgN rfl hl.1 rfl (Nat.le_of_ble_eq_true rfl) dL_law_1143 hcs (fun H locs hP hD hS hz => ?_)
  have hP : va_P G vwCl (lwW T ao f' a c' q8 Z g) H := hP
  have hD : va_D (fun q : Nat => s.heap.size ≤ q) (lwW T ao f' a c' q8 Z g) := hD
  refine lv_istore (lv' := [(5, .int v), (0, .ref b), (1, .ref (a.1 0)), (2, .ref (q8 0)), (3, .ref ao), (4, .int (nI i))]) hx hb dL_law_1146 hl (by decide) rfl (fun ls hl => ?_)
  refine lv_aload_n hx hb dL_law_1148 rfl (lv_at hl 3 rfl) ?_
  refine lv_aload_n hx hb dL_law_1149 rfl (lv_at hl 1 rfl) ?_
  refine lv_iload hx hb dL_law_1150 (lv_at hl 5 rfl) ?_
  refine n_iconst hx hb 1 dL_law_1152 (by decide) ?_
  refine n_iadd hx hb dL_law_1153 ?_
  refine va_sld hx hb hX hbl hbA hS (vp_in_nI (show i + 1 < L by omega) (by omega)) dL_law_1154 ?_
  refine n_top (y := xs (i + 1)) (by rw [nI_clamp (by omega)]) ?_
  refine lv_aload_n hx hb dL_law_1155 rfl (lv_at hl 1 rfl) ?_
  refine lv_iload hx hb dL_law_1156 (lv_at hl 5 rfl) ?_
  refine n_iconst hx hb 2 dL_law_1158 (by decide) ?_
  refine n_iadd hx hb dL_law_1159 ?_
  refine va_sld hx hb hX hbl hbA hS (vp_in_nI (show i + 2 < L by omega) (by omega)) dL_law_1160 ?_
  refine n_top (y := xs (i + 2)) (by rw [nI_clamp (by omega)]) ?_
  have hP8 := va_Ptl hP
  refine k_rwV (As := [.int (xs (i + 1)), .int (xs (i + 2))]) (rest := []) (wc := lwW T ao f' a c' q8 Z g) (wr := []) (w1 := lwW T ao f' a c' q8 Z' g) (mc := 0) (ms := 0) cx (RWi.fr (hX1 H.size g) (Fr.head (wO T ao f' ++ oC T a c') (oX8 T q8 Z g) (oX8 T q8 Z' g))) (cwV 2 hts hL_X8_room rfl rfl rfl (by decide +kernel) ⟨Nat.le_of_ble_eq_true rfl, Nat.le_of_ble_eq_true rfl⟩) (kN_full hP hD hS hA hE hK) (va_recv hK hP8 (ci := 8) (q0 := 0) rfl rfl) rfl hl.1 rfl (Nat.le_of_ble_eq_true rfl) dL_law_1161 ⟨by show cells + 1 + 0 ≤ 601024; omega, by show slots + 6 + 0 ≤ 7293033; omega⟩ (fun H locs hP hD hS hz => ?_)
  have hP : va_P G vwCl (lwW T ao f' a c' q8 Z' g) H := hP
  have hD : va_D (fun q : Nat => s.heap.size ≤ q) (lwW T ao f' a c' q8 Z' g) := hD
  refine lv_istore (lv' := [(6, .int bb), (5, .int v), (0, .ref b), (1, .ref (a.1 0)), (2, .ref (q8 0)), (3, .ref ao), (4, .int (nI i))]) hx hb dL_law_1164 hl (by decide) rfl (fun ls hl => ?_)
  refine lv_aload_n hx hb dL_law_1166 rfl (lv_at hl 4 rfl) ?_
  have hP8 := va_Ptl hP
  refine k_roV (As := []) (rest := []) (wc := oX8 T q8 Z' g) (d := 0) (v := Z' 0 0) cx (c_X8_thrown l G T (fun q : Nat => s.heap.size ≤ q) q8 Z' g) (cwV 0 hts hL_X8_thrown rfl rfl rfl (by decide +kernel) ⟨Nat.le_of_ble_eq_true rfl, Nat.le_of_ble_eq_true rfl⟩) hP8 hK (hE.kept hS.2.1) (va_recv hK hP8 (ci := 8) (q0 := 0) rfl rfl) rfl hl.1 rfl (Nat.le_of_ble_eq_true rfl) dL_law_1167 ⟨by show cells + 1 + 0 ≤ 601024; omega, by show slots + 6 + 0 ≤ 7293033; omega⟩ ?_
  refine lv_iload hx hb dL_law_1170 (lv_at hl 1 rfl) ?_
  refine lv_icmp_eq (tgt := 1177) hx hb dL_law_1172 (by decide) (fun _ => ?_) (fun h9 => absurd hth h9)
  refine lv_iload hx hb dL_law_1177 (lv_at hl 1 rfl) ?_
  refine lv_if_ne (tgt := 1194) hx hb dL_law_1179 (by decide) (fun _ => ?_) (fun h9 => ?_)
  · refine lv_goto (tgt := 1680) hx hb dL_law_1194 (by decide) ?_
    exact kk _ _ _ ⟨f', c', Z', g, hP, hD, hS, hJ1⟩ (lv_sub hl [2, 3, 4, 5, 6] rfl)
  have e9 : f' (nI 0).toNatClampNeg = bb.toInt64 := by rw [nI_clamp (by decide)]; exact han (h9.trans nI_0.symm)
  refine lv_aload_n hx hb dL_law_1182 rfl (lv_at hl 5 rfl) ?_
  refine n_iconst hx hb 0 dL_law_1183 (by decide) ?_
  refine va_lald hx hb hK hP 0 3 rfl rfl (vp_in_nI (show 0 < 1 by decide) (by decide)) dL_law_1184 ?_
  refine lv_iload hx hb dL_law_1185 (lv_at hl 0 rfl) ?_
  refine lv_i2l (v := bb.toInt64) hx hb dL_law_1187 rfl ?_
  refine W.lcmp hx hb dL_law_1188 ?_
  refine lv_if_eq (tgt := 1194) hx hb dL_law_1189 (by decide) (fun _ => ?_) (fun h9 => absurd (by rw [e9]; exact lg_self _) h9)
  refine lv_goto (tgt := 1680) hx hb dL_law_1194 (by decide) ?_
  exact kk _ _ _ ⟨f', c', Z', g, hP, hD, hS, hJ1⟩ (lv_sub hl [2, 3, 4, 5, 6] rfl)
set_option maxHeartbeats 8000000 in
set_option maxRecDepth 100000 in
theorem lc_latest (E : lwE l p s m c b L xs G T) {i B cells slots : Nat} (hi : i + 3 < L) (hL : L ≤ 2048) (hB : B + 100 < 2 ^ 27) (hcs : cells + 1 ≤ 601024 ∧ slots + 6 ≤ 7293033) {H : Heap} {locs : List Loc} {ls : Array Slot} (hW : lwS s G T a ao q8 B H locs) (hl : lv_has ls 9 (lwV b a ao q8 i)) (kk : ∀ (H : Heap) (locs : List Loc) (ls : Array Slot), lwS s G T a ao q8 (B + 100) H locs → lv_has ls 9 (lwV b a ao q8 i) → W p l e room_1 s m #[Value.ref b] below meth c H locs (cells + 1) (slots + 6) Q (F0 m 1680 ls [])) : W p l e room_1 s m #[Value.ref b] below meth c H locs cells slots Q (F0 m 1197 ls []) := by
  obtain ⟨hx, hb, hml, hown, hts, hX, hbl, hst, hK, hE, hgC, hgN⟩ := E
  obtain ⟨f, c9, Z, g, hP, hD, hS, hJ⟩ := hW
  have cx : CallFix p m c cL_law 9 s #[Value.ref b] wsLw RL := ⟨hx, hb, hml, hown, hts⟩
  have hA : ∀ q : Nat, s.heap.size ≤ q → (fun q : Nat => s.heap.size ≤ q) q := fun _ h => h
  have hbA : ¬ (fun q : Nat => s.heap.size ≤ q) b := Nat.not_le.mpr hbl
  have hl : lv_has ls 9 [(0, .ref b), (1, .ref (a.1 0)), (2, .ref (q8 0)), (3, .ref ao), (4, .int (nI i))] := hl
  obtain ⟨d, v, bb, f', c', Z', hd, hL1, hX1, hth, han, hJ1⟩ := st_latest l hst G T a ao q8 hB f c9 Z (xs (i + 1)) hJ
  refine lv_aload_n hx hb dL_law_1197 rfl (lv_at hl 1 rfl) ?_
  refine lv_aload_n hx hb dL_law_1198 rfl (lv_at hl 0 rfl) ?_
  refine lv_iload hx hb dL_law_1199 (lv_at hl 4 rfl) ?_
  refine n_iconst hx hb 1 dL_law_1201 (by decide) ?_
  refine n_iadd hx hb dL_law_1202 ?_
  refine va_sld hx hb hX hbl hbA hS (vp_in_nI (show i + 1 < L by omega) (by omega)) dL_law_1203 ?_
  refine n_top (y := xs (i + 1)) (by rw [nI_clamp (by omega)]) ?_
  refine lv_aload_n hx hb dL_law_1204 rfl (lv_at hl 3 rfl) ?_
  refine k_lxS (As := [.ref (a.1 0), .int (xs (i + 1)), .ref ao]) (rest := []) (wc := lwW T ao f a c9 q8 Z g) (wr := []) (w1 := lwW T ao f' a c' q8 Z g) cx (RWx.fr (hL1 H.size) (Fr.tail (wO T ao f ++ oC T a c9) (wO T ao f' ++ oC T a c') (oX8 T q8 Z g))) (vx_cwSW 3 hts hL_L_latest rfl rfl rfl (by decide +kernel) ⟨by show d + 1 ≤ 17; omega, by show 8 + (_ + 11) + 40 * d ≤ 664; omega⟩) (kN_full hP hD hS hA hE hK) hgC hgN rfl hl.1 rfl (Nat.le_of_ble_eq_true rfl) dL_law_1205 hcs (fun H locs hP hD hS hz => ?_)
  have hP : va_P G vwCl (lwW T ao f' a c' q8 Z g) H := hP
  have hD : va_D (fun q : Nat => s.heap.size ≤ q) (lwW T ao f' a c' q8 Z g) := hD
  refine lv_istore (lv' := [(5, .int v), (0, .ref b), (1, .ref (a.1 0)), (2, .ref (q8 0)), (3, .ref ao), (4, .int (nI i))]) hx hb dL_law_1208 hl (by decide) rfl (fun ls hl => ?_)
  refine lv_aload_n hx hb dL_law_1210 rfl (lv_at hl 3 rfl) ?_
  refine lv_aload_n hx hb dL_law_1211 rfl (lv_at hl 1 rfl) ?_
  refine lv_iload hx hb dL_law_1212 (lv_at hl 5 rfl) ?_
  refine n_iconst hx hb 1 dL_law_1214 (by decide) ?_
  refine n_iadd hx hb dL_law_1215 ?_
  refine va_sld hx hb hX hbl hbA hS (vp_in_nI (show i + 1 < L by omega) (by omega)) dL_law_1216 ?_
  refine n_top (y := xs (i + 1)) (by rw [nI_clamp (by omega)]) ?_
  have hP8 := va_Ptl hP
  refine k_rwV (As := [.int (xs (i + 1))]) (rest := []) (wc := lwW T ao f' a c' q8 Z g) (wr := []) (w1 := lwW T ao f' a c' q8 Z' g) (mc := 0) (ms := 0) cx (RWi.fr (hX1 H.size g) (Fr.head (wO T ao f' ++ oC T a c') (oX8 T q8 Z g) (oX8 T q8 Z' g))) (cwV 1 hts hL_X8_latest rfl rfl rfl (by decide +kernel) ⟨Nat.le_of_ble_eq_true rfl, Nat.le_of_ble_eq_true rfl⟩) (kN_full hP hD hS hA hE hK) (va_recv hK hP8 (ci := 8) (q0 := 0) rfl rfl) rfl hl.1 rfl (Nat.le_of_ble_eq_true rfl) dL_law_1217 ⟨by show cells + 1 + 0 ≤ 601024; omega, by show slots + 6 + 0 ≤ 7293033; omega⟩ (fun H locs hP hD hS hz => ?_)
  have hP : va_P G vwCl (lwW T ao f' a c' q8 Z' g) H := hP
  have hD : va_D (fun q : Nat => s.heap.size ≤ q) (lwW T ao f' a c' q8 Z' g) := hD
  refine lv_istore (lv' := [(6, .int bb), (5, .int v), (0, .ref b), (1, .ref (a.1 0)), (2, .ref (q8 0)), (3, .ref ao), (4, .int (nI i))]) hx hb dL_law_1220 hl (by decide) rfl (fun ls hl => ?_)
  refine lv_aload_n hx hb dL_law_1222 rfl (lv_at hl 4 rfl) ?_
  have hP8 := va_Ptl hP
  refine k_roV (As := []) (rest := []) (wc := oX8 T q8 Z' g) (d := 0) (v := Z' 0 0) cx (c_X8_thrown l G T (fun q : Nat => s.heap.size ≤ q) q8 Z' g) (cwV 0 hts hL_X8_thrown rfl rfl rfl (by decide +kernel) ⟨Nat.le_of_ble_eq_true rfl, Nat.le_of_ble_eq_true rfl⟩) hP8 hK (hE.kept hS.2.1) (va_recv hK hP8 (ci := 8) (q0 := 0) rfl rfl) rfl hl.1 rfl (Nat.le_of_ble_eq_true rfl) dL_law_1223 ⟨by show cells + 1 + 0 ≤ 601024; omega, by show slots + 6 + 0 ≤ 7293033; omega⟩ ?_
  refine lv_iload hx hb dL_law_1226 (lv_at hl 1 rfl) ?_
  refine lv_icmp_eq (tgt := 1233) hx hb dL_law_1228 (by decide) (fun _ => ?_) (fun h9 => absurd hth h9)
  refine lv_iload hx hb dL_law_1233 (lv_at hl 1 rfl) ?_
  refine lv_if_ne (tgt := 1250) hx hb dL_law_1235 (by decide) (fun _ => ?_) (fun h9 => ?_)
  · refine lv_goto (tgt := 1680) hx hb dL_law_1250 (by decide) ?_
    exact kk _ _ _ ⟨f', c', Z', g, hP, hD, hS, hJ1⟩ (lv_sub hl [2, 3, 4, 5, 6] rfl)
  have e9 : f' (nI 0).toNatClampNeg = bb.toInt64 := by rw [nI_clamp (by decide)]; exact han (h9.trans nI_0.symm)
  refine lv_aload_n hx hb dL_law_1238 rfl (lv_at hl 5 rfl) ?_
  refine n_iconst hx hb 0 dL_law_1239 (by decide) ?_
  refine va_lald hx hb hK hP 0 3 rfl rfl (vp_in_nI (show 0 < 1 by decide) (by decide)) dL_law_1240 ?_
  refine lv_iload hx hb dL_law_1241 (lv_at hl 0 rfl) ?_
  refine lv_i2l (v := bb.toInt64) hx hb dL_law_1243 rfl ?_
  refine W.lcmp hx hb dL_law_1244 ?_
  refine lv_if_eq (tgt := 1250) hx hb dL_law_1245 (by decide) (fun _ => ?_) (fun h9 => absurd (by rw [e9]; exact lg_self _) h9)
  refine lv_goto (tgt := 1680) hx hb dL_law_1250 (by decide) ?_
  exact kk _ _ _ ⟨f', c', Z', g, hP, hD, hS, hJ1⟩ (lv_sub hl [2, 3, 4, 5, 6] rfl)
set_option maxHeartbeats 8000000 in
set_option maxRecDepth 100000 in
theorem lc_count (E : lwE l p s m c b L xs G T) {i B cells slots : Nat} (hi : i + 3 < L) (hL : L ≤ 2048) (hB : B + 100 < 2 ^ 27) (hcs : cells + 1 ≤ 601024 ∧ slots + 6 ≤ 7293033) {H : Heap} {locs : List Loc} {ls : Array Slot} (hW : lwS s G T a ao q8 B H locs) (hl : lv_has ls 9 (lwV b a ao q8 i)) (kk : ∀ (H : Heap) (locs : List Loc) (ls : Array Slot), lwS s G T a ao q8 (B + 100) H locs → lv_has ls 9 (lwV b a ao q8 i) → W p l e room_1 s m #[Value.ref b] below meth c H locs (cells + 1) (slots + 6) Q (F0 m 1680 ls [])) : W p l e room_1 s m #[Value.ref b] below meth c H locs cells slots Q (F0 m 1253 ls []) := by
  obtain ⟨hx, hb, hml, hown, hts, hX, hbl, hst, hK, hE, hgC, hgN⟩ := E
  obtain ⟨f, c9, Z, g, hP, hD, hS, hJ⟩ := hW
  have cx : CallFix p m c cL_law 9 s #[Value.ref b] wsLw RL := ⟨hx, hb, hml, hown, hts⟩
  have hA : ∀ q : Nat, s.heap.size ≤ q → (fun q : Nat => s.heap.size ≤ q) q := fun _ h => h
  have hbA : ¬ (fun q : Nat => s.heap.size ≤ q) b := Nat.not_le.mpr hbl
  have hl : lv_has ls 9 [(0, .ref b), (1, .ref (a.1 0)), (2, .ref (q8 0)), (3, .ref ao), (4, .int (nI i))] := hl
  obtain ⟨d, v, bb, f', c', Z', hd, hL1, hX1, hth, han, hJ1⟩ := st_count l hst G T a ao q8 hB f c9 Z (xs (i + 1)) hJ
  refine lv_aload_n hx hb dL_law_1253 rfl (lv_at hl 1 rfl) ?_
  refine lv_aload_n hx hb dL_law_1254 rfl (lv_at hl 0 rfl) ?_
  refine lv_iload hx hb dL_law_1255 (lv_at hl 4 rfl) ?_
  refine n_iconst hx hb 1 dL_law_1257 (by decide) ?_
  refine n_iadd hx hb dL_law_1258 ?_
  refine va_sld hx hb hX hbl hbA hS (vp_in_nI (show i + 1 < L by omega) (by omega)) dL_law_1259 ?_
  refine n_top (y := xs (i + 1)) (by rw [nI_clamp (by omega)]) ?_
  refine lv_aload_n hx hb dL_law_1260 rfl (lv_at hl 3 rfl) ?_
  refine k_lxS (As := [.ref (a.1 0), .int (xs (i + 1)), .ref ao]) (rest := []) (wc := lwW T ao f a c9 q8 Z g) (wr := []) (w1 := lwW T ao f' a c' q8 Z g) cx (RWx.fr (hL1 H.size) (Fr.tail (wO T ao f ++ oC T a c9) (wO T ao f' ++ oC T a c') (oX8 T q8 Z g))) (vx_cwSW 3 hts hL_L_count rfl rfl rfl (by decide +kernel) ⟨by show d + 1 ≤ 17; omega, by show 8 + (_ + 11) + 40 * d ≤ 664; omega⟩) (kN_full hP hD hS hA hE hK) hgC hgN rfl hl.1 rfl (Nat.le_of_ble_eq_true rfl) dL_law_1261 hcs (fun H locs hP hD hS hz => ?_)
  have hP : va_P G vwCl (lwW T ao f' a c' q8 Z g) H := hP
  have hD : va_D (fun q : Nat => s.heap.size ≤ q) (lwW T ao f' a c' q8 Z g) := hD
  refine lv_istore (lv' := [(5, .int v), (0, .ref b), (1, .ref (a.1 0)), (2, .ref (q8 0)), (3, .ref ao), (4, .int (nI i))]) hx hb dL_law_1264 hl (by decide) rfl (fun ls hl => ?_)
  refine lv_aload_n hx hb dL_law_1266 rfl (lv_at hl 3 rfl) ?_
  refine lv_aload_n hx hb dL_law_1267 rfl (lv_at hl 1 rfl) ?_
  refine lv_iload hx hb dL_law_1268 (lv_at hl 5 rfl) ?_
  refine n_iconst hx hb 1 dL_law_1270 (by decide) ?_
  refine n_iadd hx hb dL_law_1271 ?_
  refine va_sld hx hb hX hbl hbA hS (vp_in_nI (show i + 1 < L by omega) (by omega)) dL_law_1272 ?_
  refine n_top (y := xs (i + 1)) (by rw [nI_clamp (by omega)]) ?_
  have hP8 := va_Ptl hP
  refine k_rwV (As := [.int (xs (i + 1))]) (rest := []) (wc := lwW T ao f' a c' q8 Z g) (wr := []) (w1 := lwW T ao f' a c' q8 Z' g) (mc := 0) (ms := 0) cx (RWi.fr (hX1 H.size g) (Fr.head (wO T ao f' ++ oC T a c') (oX8 T q8 Z g) (oX8 T q8 Z' g))) (cwV 1 hts hL_X8_count rfl rfl rfl (by decide +kernel) ⟨Nat.le_of_ble_eq_true rfl, Nat.le_of_ble_eq_true rfl⟩) (kN_full hP hD hS hA hE hK) (va_recv hK hP8 (ci := 8) (q0 := 0) rfl rfl) rfl hl.1 rfl (Nat.le_of_ble_eq_true rfl) dL_law_1273 ⟨by show cells + 1 + 0 ≤ 601024; omega, by show slots + 6 + 0 ≤ 7293033; omega⟩ (fun H locs hP hD hS hz => ?_)
  have hP : va_P G vwCl (lwW T ao f' a c' q8 Z' g) H := hP
  have hD : va_D (fun q : Nat => s.heap.size ≤ q) (lwW T ao f' a c' q8 Z' g) := hD
  refine lv_istore (lv' := [(6, .int bb), (5, .int v), (0, .ref b), (1, .ref (a.1 0)), (2, .ref (q8 0)), (3, .ref ao), (4, .int (nI i))]) hx hb dL_law_1276 hl (by decide) rfl (fun ls hl => ?_)
  refine lv_aload_n hx hb dL_law_1278 rfl (lv_at hl 4 rfl) ?_
  have hP8 := va_Ptl hP
  refine k_roV (As := []) (rest := []) (wc := oX8 T q8 Z' g) (d := 0) (v := Z' 0 0) cx (c_X8_thrown l G T (fun q : Nat => s.heap.size ≤ q) q8 Z' g) (cwV 0 hts hL_X8_thrown rfl rfl rfl (by decide +kernel) ⟨Nat.le_of_ble_eq_true rfl, Nat.le_of_ble_eq_true rfl⟩) hP8 hK (hE.kept hS.2.1) (va_recv hK hP8 (ci := 8) (q0 := 0) rfl rfl) rfl hl.1 rfl (Nat.le_of_ble_eq_true rfl) dL_law_1279 ⟨by show cells + 1 + 0 ≤ 601024; omega, by show slots + 6 + 0 ≤ 7293033; omega⟩ ?_
  refine lv_iload hx hb dL_law_1282 (lv_at hl 1 rfl) ?_
  refine lv_icmp_eq (tgt := 1289) hx hb dL_law_1284 (by decide) (fun _ => ?_) (fun h9 => absurd hth h9)
  refine lv_iload hx hb dL_law_1289 (lv_at hl 1 rfl) ?_
  refine lv_if_ne (tgt := 1306) hx hb dL_law_1291 (by decide) (fun _ => ?_) (fun h9 => ?_)
  · refine lv_goto (tgt := 1680) hx hb dL_law_1306 (by decide) ?_
    exact kk _ _ _ ⟨f', c', Z', g, hP, hD, hS, hJ1⟩ (lv_sub hl [2, 3, 4, 5, 6] rfl)
  have e9 : f' (nI 0).toNatClampNeg = bb.toInt64 := by rw [nI_clamp (by decide)]; exact han (h9.trans nI_0.symm)
  refine lv_aload_n hx hb dL_law_1294 rfl (lv_at hl 5 rfl) ?_
  refine n_iconst hx hb 0 dL_law_1295 (by decide) ?_
  refine va_lald hx hb hK hP 0 3 rfl rfl (vp_in_nI (show 0 < 1 by decide) (by decide)) dL_law_1296 ?_
  refine lv_iload hx hb dL_law_1297 (lv_at hl 0 rfl) ?_
  refine lv_i2l (v := bb.toInt64) hx hb dL_law_1299 rfl ?_
  refine W.lcmp hx hb dL_law_1300 ?_
  refine lv_if_eq (tgt := 1306) hx hb dL_law_1301 (by decide) (fun _ => ?_) (fun h9 => absurd (by rw [e9]; exact lg_self _) h9)
  refine lv_goto (tgt := 1680) hx hb dL_law_1306 (by decide) ?_
  exact kk _ _ _ ⟨f', c', Z', g, hP, hD, hS, hJ1⟩ (lv_sub hl [2, 3, 4, 5, 6] rfl)
set_option maxHeartbeats 8000000 in
set_option maxRecDepth 100000 in
theorem lc_decode (E : lwE l p s m c b L xs G T) {i B cells slots : Nat} (hi : i + 3 < L) (hL : L ≤ 2048) (hB : B + 100 < 2 ^ 27) (hcs : cells + 1 ≤ 601024 ∧ slots + 6 ≤ 7293033) {H : Heap} {locs : List Loc} {ls : Array Slot} (hW : lwS s G T a ao q8 B H locs) (hl : lv_has ls 9 (lwV b a ao q8 i)) (kk : ∀ (H : Heap) (locs : List Loc) (ls : Array Slot), lwS s G T a ao q8 (B + 100) H locs → lv_has ls 9 (lwV b a ao q8 i) → W p l e room_1 s m #[Value.ref b] below meth c H locs (cells + 1) (slots + 6) Q (F0 m 1680 ls [])) : W p l e room_1 s m #[Value.ref b] below meth c H locs cells slots Q (F0 m 1309 ls []) := by
  obtain ⟨hx, hb, hml, hown, hts, hX, hbl, hst, hK, hE, hgC, hgN⟩ := E
  obtain ⟨f, c9, Z, g, hP, hD, hS, hJ⟩ := hW
  have cx : CallFix p m c cL_law 9 s #[Value.ref b] wsLw RL := ⟨hx, hb, hml, hown, hts⟩
  have hA : ∀ q : Nat, s.heap.size ≤ q → (fun q : Nat => s.heap.size ≤ q) q := fun _ h => h
  have hbA : ¬ (fun q : Nat => s.heap.size ≤ q) b := Nat.not_le.mpr hbl
  have hl : lv_has ls 9 [(0, .ref b), (1, .ref (a.1 0)), (2, .ref (q8 0)), (3, .ref ao), (4, .int (nI i))] := hl
  obtain ⟨d, v, bb, f', c', Z', hd, hL1, hX1, hth, han, hJ1⟩ := st_decode l hst G T a ao q8 hB f c9 Z (xs (i + 1)) (xs (i + 2)) hJ
  refine lv_aload_n hx hb dL_law_1309 rfl (lv_at hl 1 rfl) ?_
  refine lv_aload_n hx hb dL_law_1310 rfl (lv_at hl 0 rfl) ?_
  refine lv_iload hx hb dL_law_1311 (lv_at hl 4 rfl) ?_
  refine n_iconst hx hb 1 dL_law_1313 (by decide) ?_
  refine n_iadd hx hb dL_law_1314 ?_
  refine va_sld hx hb hX hbl hbA hS (vp_in_nI (show i + 1 < L by omega) (by omega)) dL_law_1315 ?_
  refine n_top (y := xs (i + 1)) (by rw [nI_clamp (by omega)]) ?_
  refine lv_aload_n hx hb dL_law_1316 rfl (lv_at hl 0 rfl) ?_
  refine lv_iload hx hb dL_law_1317 (lv_at hl 4 rfl) ?_
  refine n_iconst hx hb 2 dL_law_1319 (by decide) ?_
  refine n_iadd hx hb dL_law_1320 ?_
  refine va_sld hx hb hX hbl hbA hS (vp_in_nI (show i + 2 < L by omega) (by omega)) dL_law_1321 ?_
  refine n_top (y := xs (i + 2)) (by rw [nI_clamp (by omega)]) ?_
  refine lv_aload_n hx hb dL_law_1322 rfl (lv_at hl 3 rfl) ?_
  refine k_lxS (As := [.ref (a.1 0), .int (xs (i + 1)), .int (xs (i + 2)), .ref ao]) (rest := []) (wc := lwW T ao f a c9 q8 Z g) (wr := []) (w1 := lwW T ao f' a c' q8 Z g) cx (RWx.fr (hL1 H.size) (Fr.tail (wO T ao f ++ oC T a c9) (wO T ao f' ++ oC T a c') (oX8 T q8 Z g))) (vx_cwSW 4 hts hL_L_decode rfl rfl rfl (by decide +kernel) ⟨by show d + 1 ≤ 17; omega, by show 8 + (_ + 11) + 40 * d ≤ 664; omega⟩) (kN_full hP hD hS hA hE hK) hgC hgN rfl hl.1 rfl (Nat.le_of_ble_eq_true rfl) dL_law_1323 hcs (fun H locs hP hD hS hz => ?_)
  have hP : va_P G vwCl (lwW T ao f' a c' q8 Z g) H := hP
  have hD : va_D (fun q : Nat => s.heap.size ≤ q) (lwW T ao f' a c' q8 Z g) := hD
  refine lv_istore (lv' := [(5, .int v), (0, .ref b), (1, .ref (a.1 0)), (2, .ref (q8 0)), (3, .ref ao), (4, .int (nI i))]) hx hb dL_law_1326 hl (by decide) rfl (fun ls hl => ?_)
  refine lv_aload_n hx hb dL_law_1328 rfl (lv_at hl 3 rfl) ?_
  refine lv_aload_n hx hb dL_law_1329 rfl (lv_at hl 1 rfl) ?_
  refine lv_iload hx hb dL_law_1330 (lv_at hl 5 rfl) ?_
  refine n_iconst hx hb 1 dL_law_1332 (by decide) ?_
  refine n_iadd hx hb dL_law_1333 ?_
  refine va_sld hx hb hX hbl hbA hS (vp_in_nI (show i + 1 < L by omega) (by omega)) dL_law_1334 ?_
  refine n_top (y := xs (i + 1)) (by rw [nI_clamp (by omega)]) ?_
  refine lv_aload_n hx hb dL_law_1335 rfl (lv_at hl 1 rfl) ?_
  refine lv_iload hx hb dL_law_1336 (lv_at hl 5 rfl) ?_
  refine n_iconst hx hb 2 dL_law_1338 (by decide) ?_
  refine n_iadd hx hb dL_law_1339 ?_
  refine va_sld hx hb hX hbl hbA hS (vp_in_nI (show i + 2 < L by omega) (by omega)) dL_law_1340 ?_
  refine n_top (y := xs (i + 2)) (by rw [nI_clamp (by omega)]) ?_
  have hP8 := va_Ptl hP
  refine k_rwV (As := [.int (xs (i + 1)), .int (xs (i + 2))]) (rest := []) (wc := lwW T ao f' a c' q8 Z g) (wr := []) (w1 := lwW T ao f' a c' q8 Z' g) (mc := 0) (ms := 0) cx (RWi.fr (hX1 H.size g) (Fr.head (wO T ao f' ++ oC T a c') (oX8 T q8 Z g) (oX8 T q8 Z' g))) (cwV 2 hts hL_X8_decode rfl rfl rfl (by decide +kernel) ⟨Nat.le_of_ble_eq_true rfl, Nat.le_of_ble_eq_true rfl⟩) (kN_full hP hD hS hA hE hK) (va_recv hK hP8 (ci := 8) (q0 := 0) rfl rfl) rfl hl.1 rfl (Nat.le_of_ble_eq_true rfl) dL_law_1341 ⟨by show cells + 1 + 0 ≤ 601024; omega, by show slots + 6 + 0 ≤ 7293033; omega⟩ (fun H locs hP hD hS hz => ?_)
  have hP : va_P G vwCl (lwW T ao f' a c' q8 Z' g) H := hP
  have hD : va_D (fun q : Nat => s.heap.size ≤ q) (lwW T ao f' a c' q8 Z' g) := hD
  refine lv_istore (lv' := [(6, .int bb), (5, .int v), (0, .ref b), (1, .ref (a.1 0)), (2, .ref (q8 0)), (3, .ref ao), (4, .int (nI i))]) hx hb dL_law_1344 hl (by decide) rfl (fun ls hl => ?_)
  refine lv_aload_n hx hb dL_law_1346 rfl (lv_at hl 4 rfl) ?_
  have hP8 := va_Ptl hP
  refine k_roV (As := []) (rest := []) (wc := oX8 T q8 Z' g) (d := 0) (v := Z' 0 0) cx (c_X8_thrown l G T (fun q : Nat => s.heap.size ≤ q) q8 Z' g) (cwV 0 hts hL_X8_thrown rfl rfl rfl (by decide +kernel) ⟨Nat.le_of_ble_eq_true rfl, Nat.le_of_ble_eq_true rfl⟩) hP8 hK (hE.kept hS.2.1) (va_recv hK hP8 (ci := 8) (q0 := 0) rfl rfl) rfl hl.1 rfl (Nat.le_of_ble_eq_true rfl) dL_law_1347 ⟨by show cells + 1 + 0 ≤ 601024; omega, by show slots + 6 + 0 ≤ 7293033; omega⟩ ?_
  refine lv_iload hx hb dL_law_1350 (lv_at hl 1 rfl) ?_
  refine lv_icmp_eq (tgt := 1357) hx hb dL_law_1352 (by decide) (fun _ => ?_) (fun h9 => absurd hth h9)
  refine lv_iload hx hb dL_law_1357 (lv_at hl 1 rfl) ?_
  refine lv_if_ne (tgt := 1374) hx hb dL_law_1359 (by decide) (fun _ => ?_) (fun h9 => ?_)
  · refine lv_goto (tgt := 1680) hx hb dL_law_1374 (by decide) ?_
    exact kk _ _ _ ⟨f', c', Z', g, hP, hD, hS, hJ1⟩ (lv_sub hl [2, 3, 4, 5, 6] rfl)
  have e9 : f' (nI 0).toNatClampNeg = bb.toInt64 := by rw [nI_clamp (by decide)]; exact han (h9.trans nI_0.symm)
  refine lv_aload_n hx hb dL_law_1362 rfl (lv_at hl 5 rfl) ?_
  refine n_iconst hx hb 0 dL_law_1363 (by decide) ?_
  refine va_lald hx hb hK hP 0 3 rfl rfl (vp_in_nI (show 0 < 1 by decide) (by decide)) dL_law_1364 ?_
  refine lv_iload hx hb dL_law_1365 (lv_at hl 0 rfl) ?_
  refine lv_i2l (v := bb.toInt64) hx hb dL_law_1367 rfl ?_
  refine W.lcmp hx hb dL_law_1368 ?_
  refine lv_if_eq (tgt := 1374) hx hb dL_law_1369 (by decide) (fun _ => ?_) (fun h9 => absurd (by rw [e9]; exact lg_self _) h9)
  refine lv_goto (tgt := 1680) hx hb dL_law_1374 (by decide) ?_
  exact kk _ _ _ ⟨f', c', Z', g, hP, hD, hS, hJ1⟩ (lv_sub hl [2, 3, 4, 5, 6] rfl)
end LC
