/-! the law's cases 12 to 17 (printed by wip/whole/mklc.py) -/
section LC
variable {p : Program} {l : Launch} {e : Env} {s : State} {m : MethodId} {below : List Frame} {meth : Method} {c : Code} {b L : Nat} {xs : Nat → Int32} {G : va_G} {T : Nat → ClassId} {a : CA} {ao : Nat} {q8 : Nat → Nat} {Q : State → Prop}
set_option maxHeartbeats 8000000 in
set_option maxRecDepth 100000 in
theorem lc_tuneError (E : lwE l p s m c b L xs G T) {i B cells slots : Nat} (hi : i + 3 < L) (hL : L ≤ 2048) (hB : B + 100 < 2 ^ 27) (hcs : cells + 1 ≤ 601024 ∧ slots + 6 ≤ 7293033) {H : Heap} {locs : List Loc} {ls : Array Slot} (hW : lwS s G T a ao q8 B H locs) (hl : lv_has ls 9 (lwV b a ao q8 i)) (kk : ∀ (H : Heap) (locs : List Loc) (ls : Array Slot), lwS s G T a ao q8 (B + 100) H locs → lv_has ls 9 (lwV b a ao q8 i) → W p l e room_1 s m #[Value.ref b] below meth c H locs (cells + 1) (slots + 6) Q (F0 m 1680 ls [])) : W p l e room_1 s m #[Value.ref b] below meth c H locs cells slots Q (F0 m 779 ls []) := by
  obtain ⟨hx, hb, hml, hown, hts, hX, hbl, hst, hK, hE, hgC, hgN⟩ := E
  obtain ⟨f, c9, Z, g, hP, hD, hS, hJ⟩ := hW
  have cx : CallFix p m c cL_law 9 s #[Value.ref b] wsLw RL := ⟨hx, hb, hml, hown, hts⟩
  have hA : ∀ q : Nat, s.heap.size ≤ q → (fun q : Nat => s.heap.size ≤ q) q := fun _ h => h
  have hbA : ¬ (fun q : Nat => s.heap.size ≤ q) b := Nat.not_le.mpr hbl
  have hl : lv_has ls 9 [(0, .ref b), (1, .ref (a.1 0)), (2, .ref (q8 0)), (3, .ref ao), (4, .int (nI i))] := hl
  obtain ⟨v, bb, c', Z', hL1, hX1, hvb, hJ1⟩ := st_tuneError l G T a q8 hB c9 Z hJ
  refine lv_aload_n hx hb dL_law_779 rfl (lv_at hl 1 rfl) ?_
  refine k_rwV (As := []) (rest := []) (wc := lwW T ao f a c9 q8 Z g) (wr := []) (w1 := lwW T ao f a c' q8 Z g) (mc := 0) (ms := 0) cx (RWi.fr (RWi.fr (hL1 H.size) (Fr.head (wO T ao f) (oC T a c9) (oC T a c'))) (Fr.tail (wO T ao f ++ oC T a c9) (wO T ao f ++ oC T a c') (oX8 T q8 Z g))) (cwV 0 hts hL_X7_tuneError rfl rfl rfl (by decide +kernel) ⟨Nat.le_of_ble_eq_true rfl, Nat.le_of_ble_eq_true rfl⟩) (kN_full hP hD hS hA hE hK) (va_recv hK hP (ci := 7) (q0 := 1) rfl rfl) rfl hl.1 rfl (Nat.le_of_ble_eq_true rfl) dL_law_780 ⟨by show cells + 0 ≤ 601024; omega, by show slots + 0 ≤ 7293033; omega⟩ (fun H locs hP hD hS hz => ?_)
  have hP : va_P G vwCl (lwW T ao f a c' q8 Z g) H := hP
  have hD : va_D (fun q : Nat => s.heap.size ≤ q) (lwW T ao f a c' q8 Z g) := hD
  refine lv_aload_n hx hb dL_law_783 rfl (lv_at hl 2 rfl) ?_
  have hP8 := va_Ptl hP
  refine k_rwV (As := []) (rest := [.int v]) (wc := lwW T ao f a c' q8 Z g) (wr := []) (w1 := lwW T ao f a c' q8 Z' g) (mc := 0) (ms := 0) cx (RWi.fr (hX1 H.size g) (Fr.head (wO T ao f ++ oC T a c') (oX8 T q8 Z g) (oX8 T q8 Z' g))) (cwV 0 hts hL_X8_tuneError rfl rfl rfl (by decide +kernel) ⟨Nat.le_of_ble_eq_true rfl, Nat.le_of_ble_eq_true rfl⟩) (kN_full hP hD hS hA hE hK) (va_recv hK hP8 (ci := 8) (q0 := 0) rfl rfl) rfl hl.1 rfl (Nat.le_of_ble_eq_true rfl) dL_law_784 ⟨by show cells + 0 + 0 ≤ 601024; omega, by show slots + 0 + 0 ≤ 7293033; omega⟩ (fun H locs hP hD hS hz => ?_)
  have hP : va_P G vwCl (lwW T ao f a c' q8 Z' g) H := hP
  have hD : va_D (fun q : Nat => s.heap.size ≤ q) (lwW T ao f a c' q8 Z' g) := hD
  refine lv_icmp_eq (tgt := 1680) hx hb dL_law_787 (by decide) (fun _ => ?_) (fun h9 => absurd hvb h9)
  exact W.widen (k := cells + 1) (n := slots + 6) (by omega) (by omega) (kk _ _ _ ⟨f, c', Z', g, hP, hD, hS, hJ1⟩ hl)
set_option maxHeartbeats 8000000 in
set_option maxRecDepth 100000 in
theorem lc_play (E : lwE l p s m c b L xs G T) {i B cells slots : Nat} (hi : i + 3 < L) (hL : L ≤ 2048) (hB : B + 100 < 2 ^ 27) (hcs : cells + 1 ≤ 601024 ∧ slots + 6 ≤ 7293033) {H : Heap} {locs : List Loc} {ls : Array Slot} (hW : lwS s G T a ao q8 B H locs) (hl : lv_has ls 9 (lwV b a ao q8 i)) (kk : ∀ (H : Heap) (locs : List Loc) (ls : Array Slot), lwS s G T a ao q8 (B + 100) H locs → lv_has ls 9 (lwV b a ao q8 i) → W p l e room_1 s m #[Value.ref b] below meth c H locs (cells + 1) (slots + 6) Q (F0 m 1680 ls [])) : W p l e room_1 s m #[Value.ref b] below meth c H locs cells slots Q (F0 m 792 ls []) := by
  obtain ⟨hx, hb, hml, hown, hts, hX, hbl, hst, hK, hE, hgC, hgN⟩ := E
  obtain ⟨f, c9, Z, g, hP, hD, hS, hJ⟩ := hW
  have cx : CallFix p m c cL_law 9 s #[Value.ref b] wsLw RL := ⟨hx, hb, hml, hown, hts⟩
  have hA : ∀ q : Nat, s.heap.size ≤ q → (fun q : Nat => s.heap.size ≤ q) q := fun _ h => h
  have hbA : ¬ (fun q : Nat => s.heap.size ≤ q) b := Nat.not_le.mpr hbl
  have hl : lv_has ls 9 [(0, .ref b), (1, .ref (a.1 0)), (2, .ref (q8 0)), (3, .ref ao), (4, .int (nI i))] := hl
  obtain ⟨d, v, bb, f', c', Z', hd, hL1, hX1, hth, han, hJ1⟩ := st_play l hst G T a ao q8 hB f c9 Z  hJ
  refine lv_aload_n hx hb dL_law_792 rfl (lv_at hl 1 rfl) ?_
  refine lv_aload_n hx hb dL_law_793 rfl (lv_at hl 3 rfl) ?_
  refine k_lxS (As := [.ref (a.1 0), .ref ao]) (rest := []) (wc := lwW T ao f a c9 q8 Z g) (wr := []) (w1 := lwW T ao f' a c' q8 Z g) cx (RWx.fr (hL1 H.size) (Fr.tail (wO T ao f ++ oC T a c9) (wO T ao f' ++ oC T a c') (oX8 T q8 Z g))) (vx_cwSW 2 hts hL_L_play rfl rfl rfl (by decide +kernel) ⟨by show d + 1 ≤ 17; omega, by show 8 + (_ + 11) + 40 * d ≤ 664; omega⟩) (kN_full hP hD hS hA hE hK) hgC hgN rfl hl.1 rfl (Nat.le_of_ble_eq_true rfl) dL_law_794 hcs (fun H locs hP hD hS hz => ?_)
  have hP : va_P G vwCl (lwW T ao f' a c' q8 Z g) H := hP
  have hD : va_D (fun q : Nat => s.heap.size ≤ q) (lwW T ao f' a c' q8 Z g) := hD
  refine lv_istore (lv' := [(5, .int v), (0, .ref b), (1, .ref (a.1 0)), (2, .ref (q8 0)), (3, .ref ao), (4, .int (nI i))]) hx hb dL_law_797 hl (by decide) rfl (fun ls hl => ?_)
  refine lv_aload_n hx hb dL_law_799 rfl (lv_at hl 3 rfl) ?_
  have hP8 := va_Ptl hP
  refine k_rwV (As := []) (rest := []) (wc := lwW T ao f' a c' q8 Z g) (wr := []) (w1 := lwW T ao f' a c' q8 Z' g) (mc := 0) (ms := 0) cx (RWi.fr (hX1 H.size g) (Fr.head (wO T ao f' ++ oC T a c') (oX8 T q8 Z g) (oX8 T q8 Z' g))) (cwV 0 hts hL_X8_play rfl rfl rfl (by decide +kernel) ⟨Nat.le_of_ble_eq_true rfl, Nat.le_of_ble_eq_true rfl⟩) (kN_full hP hD hS hA hE hK) (va_recv hK hP8 (ci := 8) (q0 := 0) rfl rfl) rfl hl.1 rfl (Nat.le_of_ble_eq_true rfl) dL_law_800 ⟨by show cells + 1 + 0 ≤ 601024; omega, by show slots + 6 + 0 ≤ 7293033; omega⟩ (fun H locs hP hD hS hz => ?_)
  have hP : va_P G vwCl (lwW T ao f' a c' q8 Z' g) H := hP
  have hD : va_D (fun q : Nat => s.heap.size ≤ q) (lwW T ao f' a c' q8 Z' g) := hD
  refine lv_istore (lv' := [(6, .int bb), (5, .int v), (0, .ref b), (1, .ref (a.1 0)), (2, .ref (q8 0)), (3, .ref ao), (4, .int (nI i))]) hx hb dL_law_803 hl (by decide) rfl (fun ls hl => ?_)
  refine lv_aload_n hx hb dL_law_805 rfl (lv_at hl 4 rfl) ?_
  have hP8 := va_Ptl hP
  refine k_roV (As := []) (rest := []) (wc := oX8 T q8 Z' g) (d := 0) (v := Z' 0 0) cx (c_X8_thrown l G T (fun q : Nat => s.heap.size ≤ q) q8 Z' g) (cwV 0 hts hL_X8_thrown rfl rfl rfl (by decide +kernel) ⟨Nat.le_of_ble_eq_true rfl, Nat.le_of_ble_eq_true rfl⟩) hP8 hK (hE.kept hS.2.1) (va_recv hK hP8 (ci := 8) (q0 := 0) rfl rfl) rfl hl.1 rfl (Nat.le_of_ble_eq_true rfl) dL_law_806 ⟨by show cells + 1 + 0 ≤ 601024; omega, by show slots + 6 + 0 ≤ 7293033; omega⟩ ?_
  refine lv_iload hx hb dL_law_809 (lv_at hl 1 rfl) ?_
  refine lv_icmp_eq (tgt := 816) hx hb dL_law_811 (by decide) (fun _ => ?_) (fun h9 => absurd hth h9)
  refine lv_iload hx hb dL_law_816 (lv_at hl 1 rfl) ?_
  refine lv_if_ne (tgt := 833) hx hb dL_law_818 (by decide) (fun _ => ?_) (fun h9 => ?_)
  · refine lv_goto (tgt := 1680) hx hb dL_law_833 (by decide) ?_
    exact kk _ _ _ ⟨f', c', Z', g, hP, hD, hS, hJ1⟩ (lv_sub hl [2, 3, 4, 5, 6] rfl)
  have e9 : f' (nI 0).toNatClampNeg = bb.toInt64 := by rw [nI_clamp (by decide)]; exact han (h9.trans nI_0.symm)
  refine lv_aload_n hx hb dL_law_821 rfl (lv_at hl 5 rfl) ?_
  refine n_iconst hx hb 0 dL_law_822 (by decide) ?_
  refine va_lald hx hb hK hP 0 3 rfl rfl (vp_in_nI (show 0 < 1 by decide) (by decide)) dL_law_823 ?_
  refine lv_iload hx hb dL_law_824 (lv_at hl 0 rfl) ?_
  refine lv_i2l (v := bb.toInt64) hx hb dL_law_826 rfl ?_
  refine W.lcmp hx hb dL_law_827 ?_
  refine lv_if_eq (tgt := 833) hx hb dL_law_828 (by decide) (fun _ => ?_) (fun h9 => absurd (by rw [e9]; exact lg_self _) h9)
  refine lv_goto (tgt := 1680) hx hb dL_law_833 (by decide) ?_
  exact kk _ _ _ ⟨f', c', Z', g, hP, hD, hS, hJ1⟩ (lv_sub hl [2, 3, 4, 5, 6] rfl)
set_option maxHeartbeats 8000000 in
set_option maxRecDepth 100000 in
theorem lc_stopped (E : lwE l p s m c b L xs G T) {i B cells slots : Nat} (hi : i + 3 < L) (hL : L ≤ 2048) (hB : B + 100 < 2 ^ 27) (hcs : cells + 1 ≤ 601024 ∧ slots + 6 ≤ 7293033) {H : Heap} {locs : List Loc} {ls : Array Slot} (hW : lwS s G T a ao q8 B H locs) (hl : lv_has ls 9 (lwV b a ao q8 i)) (kk : ∀ (H : Heap) (locs : List Loc) (ls : Array Slot), lwS s G T a ao q8 (B + 100) H locs → lv_has ls 9 (lwV b a ao q8 i) → W p l e room_1 s m #[Value.ref b] below meth c H locs (cells + 1) (slots + 6) Q (F0 m 1680 ls [])) : W p l e room_1 s m #[Value.ref b] below meth c H locs cells slots Q (F0 m 836 ls []) := by
  obtain ⟨hx, hb, hml, hown, hts, hX, hbl, hst, hK, hE, hgC, hgN⟩ := E
  obtain ⟨f, c9, Z, g, hP, hD, hS, hJ⟩ := hW
  have cx : CallFix p m c cL_law 9 s #[Value.ref b] wsLw RL := ⟨hx, hb, hml, hown, hts⟩
  have hA : ∀ q : Nat, s.heap.size ≤ q → (fun q : Nat => s.heap.size ≤ q) q := fun _ h => h
  have hbA : ¬ (fun q : Nat => s.heap.size ≤ q) b := Nat.not_le.mpr hbl
  have hl : lv_has ls 9 [(0, .ref b), (1, .ref (a.1 0)), (2, .ref (q8 0)), (3, .ref ao), (4, .int (nI i))] := hl
  obtain ⟨d, v, bb, f', c', Z', hd, hL1, hX1, hth, han, hJ1⟩ := st_stopped l hst G T a ao q8 hB f c9 Z (xs (i + 1)) hJ
  refine lv_aload_n hx hb dL_law_836 rfl (lv_at hl 1 rfl) ?_
  refine lv_aload_n hx hb dL_law_837 rfl (lv_at hl 0 rfl) ?_
  refine lv_iload hx hb dL_law_838 (lv_at hl 4 rfl) ?_
  refine n_iconst hx hb 1 dL_law_840 (by decide) ?_
  refine n_iadd hx hb dL_law_841 ?_
  refine va_sld hx hb hX hbl hbA hS (vp_in_nI (show i + 1 < L by omega) (by omega)) dL_law_842 ?_
  refine n_top (y := xs (i + 1)) (by rw [nI_clamp (by omega)]) ?_
  refine lv_aload_n hx hb dL_law_843 rfl (lv_at hl 3 rfl) ?_
  refine k_lxS (As := [.ref (a.1 0), .int (xs (i + 1)), .ref ao]) (rest := []) (wc := lwW T ao f a c9 q8 Z g) (wr := []) (w1 := lwW T ao f' a c' q8 Z g) cx (RWx.fr (hL1 H.size) (Fr.tail (wO T ao f ++ oC T a c9) (wO T ao f' ++ oC T a c') (oX8 T q8 Z g))) (vx_cwSW 3 hts hL_L_stopped rfl rfl rfl (by decide +kernel) ⟨by show d + 1 ≤ 17; omega, by show 8 + (_ + 11) + 40 * d ≤ 664; omega⟩) (kN_full hP hD hS hA hE hK) hgC hgN rfl hl.1 rfl (Nat.le_of_ble_eq_true rfl) dL_law_844 hcs (fun H locs hP hD hS hz => ?_)
  have hP : va_P G vwCl (lwW T ao f' a c' q8 Z g) H := hP
  have hD : va_D (fun q : Nat => s.heap.size ≤ q) (lwW T ao f' a c' q8 Z g) := hD
  refine lv_istore (lv' := [(5, .int v), (0, .ref b), (1, .ref (a.1 0)), (2, .ref (q8 0)), (3, .ref ao), (4, .int (nI i))]) hx hb dL_law_847 hl (by decide) rfl (fun ls hl => ?_)
  refine lv_aload_n hx hb dL_law_849 rfl (lv_at hl 3 rfl) ?_
  refine lv_aload_n hx hb dL_law_850 rfl (lv_at hl 1 rfl) ?_
  refine lv_iload hx hb dL_law_851 (lv_at hl 5 rfl) ?_
  refine n_iconst hx hb 1 dL_law_853 (by decide) ?_
  refine n_iadd hx hb dL_law_854 ?_
  refine va_sld hx hb hX hbl hbA hS (vp_in_nI (show i + 1 < L by omega) (by omega)) dL_law_855 ?_
  refine n_top (y := xs (i + 1)) (by rw [nI_clamp (by omega)]) ?_
  have hP8 := va_Ptl hP
  refine k_rwV (As := [.int (xs (i + 1))]) (rest := []) (wc := lwW T ao f' a c' q8 Z g) (wr := []) (w1 := lwW T ao f' a c' q8 Z' g) (mc := 0) (ms := 0) cx (RWi.fr (hX1 H.size g) (Fr.head (wO T ao f' ++ oC T a c') (oX8 T q8 Z g) (oX8 T q8 Z' g))) (cwV 1 hts hL_X8_stopped rfl rfl rfl (by decide +kernel) ⟨Nat.le_of_ble_eq_true rfl, Nat.le_of_ble_eq_true rfl⟩) (kN_full hP hD hS hA hE hK) (va_recv hK hP8 (ci := 8) (q0 := 0) rfl rfl) rfl hl.1 rfl (Nat.le_of_ble_eq_true rfl) dL_law_856 ⟨by show cells + 1 + 0 ≤ 601024; omega, by show slots + 6 + 0 ≤ 7293033; omega⟩ (fun H locs hP hD hS hz => ?_)
  have hP : va_P G vwCl (lwW T ao f' a c' q8 Z' g) H := hP
  have hD : va_D (fun q : Nat => s.heap.size ≤ q) (lwW T ao f' a c' q8 Z' g) := hD
  refine lv_istore (lv' := [(6, .int bb), (5, .int v), (0, .ref b), (1, .ref (a.1 0)), (2, .ref (q8 0)), (3, .ref ao), (4, .int (nI i))]) hx hb dL_law_859 hl (by decide) rfl (fun ls hl => ?_)
  refine lv_aload_n hx hb dL_law_861 rfl (lv_at hl 4 rfl) ?_
  have hP8 := va_Ptl hP
  refine k_roV (As := []) (rest := []) (wc := oX8 T q8 Z' g) (d := 0) (v := Z' 0 0) cx (c_X8_thrown l G T (fun q : Nat => s.heap.size ≤ q) q8 Z' g) (cwV 0 hts hL_X8_thrown rfl rfl rfl (by decide +kernel) ⟨Nat.le_of_ble_eq_true rfl, Nat.le_of_ble_eq_true rfl⟩) hP8 hK (hE.kept hS.2.1) (va_recv hK hP8 (ci := 8) (q0 := 0) rfl rfl) rfl hl.1 rfl (Nat.le_of_ble_eq_true rfl) dL_law_862 ⟨by show cells + 1 + 0 ≤ 601024; omega, by show slots + 6 + 0 ≤ 7293033; omega⟩ ?_
  refine lv_iload hx hb dL_law_865 (lv_at hl 1 rfl) ?_
  refine lv_icmp_eq (tgt := 872) hx hb dL_law_867 (by decide) (fun _ => ?_) (fun h9 => absurd hth h9)
  refine lv_iload hx hb dL_law_872 (lv_at hl 1 rfl) ?_
  refine lv_if_ne (tgt := 889) hx hb dL_law_874 (by decide) (fun _ => ?_) (fun h9 => ?_)
  · refine lv_goto (tgt := 1680) hx hb dL_law_889 (by decide) ?_
    exact kk _ _ _ ⟨f', c', Z', g, hP, hD, hS, hJ1⟩ (lv_sub hl [2, 3, 4, 5, 6] rfl)
  have e9 : f' (nI 0).toNatClampNeg = bb.toInt64 := by rw [nI_clamp (by decide)]; exact han (h9.trans nI_0.symm)
  refine lv_aload_n hx hb dL_law_877 rfl (lv_at hl 5 rfl) ?_
  refine n_iconst hx hb 0 dL_law_878 (by decide) ?_
  refine va_lald hx hb hK hP 0 3 rfl rfl (vp_in_nI (show 0 < 1 by decide) (by decide)) dL_law_879 ?_
  refine lv_iload hx hb dL_law_880 (lv_at hl 0 rfl) ?_
  refine lv_i2l (v := bb.toInt64) hx hb dL_law_882 rfl ?_
  refine W.lcmp hx hb dL_law_883 ?_
  refine lv_if_eq (tgt := 889) hx hb dL_law_884 (by decide) (fun _ => ?_) (fun h9 => absurd (by rw [e9]; exact lg_self _) h9)
  refine lv_goto (tgt := 1680) hx hb dL_law_889 (by decide) ?_
  exact kk _ _ _ ⟨f', c', Z', g, hP, hD, hS, hJ1⟩ (lv_sub hl [2, 3, 4, 5, 6] rfl)
set_option maxHeartbeats 8000000 in
set_option maxRecDepth 100000 in
theorem lc_undo (E : lwE l p s m c b L xs G T) {i B cells slots : Nat} (hi : i + 3 < L) (hL : L ≤ 2048) (hB : B + 100 < 2 ^ 27) (hcs : cells + 1 ≤ 601024 ∧ slots + 6 ≤ 7293033) {H : Heap} {locs : List Loc} {ls : Array Slot} (hW : lwS s G T a ao q8 B H locs) (hl : lv_has ls 9 (lwV b a ao q8 i)) (kk : ∀ (H : Heap) (locs : List Loc) (ls : Array Slot), lwS s G T a ao q8 (B + 100) H locs → lv_has ls 9 (lwV b a ao q8 i) → W p l e room_1 s m #[Value.ref b] below meth c H locs (cells + 1) (slots + 6) Q (F0 m 1680 ls [])) : W p l e room_1 s m #[Value.ref b] below meth c H locs cells slots Q (F0 m 892 ls []) := by
  obtain ⟨hx, hb, hml, hown, hts, hX, hbl, hst, hK, hE, hgC, hgN⟩ := E
  obtain ⟨f, c9, Z, g, hP, hD, hS, hJ⟩ := hW
  have cx : CallFix p m c cL_law 9 s #[Value.ref b] wsLw RL := ⟨hx, hb, hml, hown, hts⟩
  have hA : ∀ q : Nat, s.heap.size ≤ q → (fun q : Nat => s.heap.size ≤ q) q := fun _ h => h
  have hbA : ¬ (fun q : Nat => s.heap.size ≤ q) b := Nat.not_le.mpr hbl
  have hl : lv_has ls 9 [(0, .ref b), (1, .ref (a.1 0)), (2, .ref (q8 0)), (3, .ref ao), (4, .int (nI i))] := hl
  obtain ⟨d, v, bb, f', c', Z', hd, hL1, hX1, hth, han, hJ1⟩ := st_undo l hst G T a ao q8 hB f c9 Z  hJ
  refine lv_aload_n hx hb dL_law_892 rfl (lv_at hl 1 rfl) ?_
  refine lv_aload_n hx hb dL_law_893 rfl (lv_at hl 3 rfl) ?_
  refine k_lxS (As := [.ref (a.1 0), .ref ao]) (rest := []) (wc := lwW T ao f a c9 q8 Z g) (wr := []) (w1 := lwW T ao f' a c' q8 Z g) cx (RWx.fr (hL1 H.size) (Fr.tail (wO T ao f ++ oC T a c9) (wO T ao f' ++ oC T a c') (oX8 T q8 Z g))) (vx_cwSW 2 hts hL_L_undo rfl rfl rfl (by decide +kernel) ⟨by show d + 1 ≤ 17; omega, by show 8 + (_ + 11) + 40 * d ≤ 664; omega⟩) (kN_full hP hD hS hA hE hK) hgC hgN rfl hl.1 rfl (Nat.le_of_ble_eq_true rfl) dL_law_894 hcs (fun H locs hP hD hS hz => ?_)
  have hP : va_P G vwCl (lwW T ao f' a c' q8 Z g) H := hP
  have hD : va_D (fun q : Nat => s.heap.size ≤ q) (lwW T ao f' a c' q8 Z g) := hD
  refine lv_istore (lv' := [(5, .int v), (0, .ref b), (1, .ref (a.1 0)), (2, .ref (q8 0)), (3, .ref ao), (4, .int (nI i))]) hx hb dL_law_897 hl (by decide) rfl (fun ls hl => ?_)
  refine lv_aload_n hx hb dL_law_899 rfl (lv_at hl 3 rfl) ?_
  have hP8 := va_Ptl hP
  refine k_rwV (As := []) (rest := []) (wc := lwW T ao f' a c' q8 Z g) (wr := []) (w1 := lwW T ao f' a c' q8 Z' g) (mc := 0) (ms := 0) cx (RWi.fr (hX1 H.size g) (Fr.head (wO T ao f' ++ oC T a c') (oX8 T q8 Z g) (oX8 T q8 Z' g))) (cwV 0 hts hL_X8_undo rfl rfl rfl (by decide +kernel) ⟨Nat.le_of_ble_eq_true rfl, Nat.le_of_ble_eq_true rfl⟩) (kN_full hP hD hS hA hE hK) (va_recv hK hP8 (ci := 8) (q0 := 0) rfl rfl) rfl hl.1 rfl (Nat.le_of_ble_eq_true rfl) dL_law_900 ⟨by show cells + 1 + 0 ≤ 601024; omega, by show slots + 6 + 0 ≤ 7293033; omega⟩ (fun H locs hP hD hS hz => ?_)
  have hP : va_P G vwCl (lwW T ao f' a c' q8 Z' g) H := hP
  have hD : va_D (fun q : Nat => s.heap.size ≤ q) (lwW T ao f' a c' q8 Z' g) := hD
  refine lv_istore (lv' := [(6, .int bb), (5, .int v), (0, .ref b), (1, .ref (a.1 0)), (2, .ref (q8 0)), (3, .ref ao), (4, .int (nI i))]) hx hb dL_law_903 hl (by decide) rfl (fun ls hl => ?_)
  refine lv_aload_n hx hb dL_law_905 rfl (lv_at hl 4 rfl) ?_
  have hP8 := va_Ptl hP
  refine k_roV (As := []) (rest := []) (wc := oX8 T q8 Z' g) (d := 0) (v := Z' 0 0) cx (c_X8_thrown l G T (fun q : Nat => s.heap.size ≤ q) q8 Z' g) (cwV 0 hts hL_X8_thrown rfl rfl rfl (by decide +kernel) ⟨Nat.le_of_ble_eq_true rfl, Nat.le_of_ble_eq_true rfl⟩) hP8 hK (hE.kept hS.2.1) (va_recv hK hP8 (ci := 8) (q0 := 0) rfl rfl) rfl hl.1 rfl (Nat.le_of_ble_eq_true rfl) dL_law_906 ⟨by show cells + 1 + 0 ≤ 601024; omega, by show slots + 6 + 0 ≤ 7293033; omega⟩ ?_
  refine lv_iload hx hb dL_law_909 (lv_at hl 1 rfl) ?_
  refine lv_icmp_eq (tgt := 916) hx hb dL_law_911 (by decide) (fun _ => ?_) (fun h9 => absurd hth h9)
  refine lv_iload hx hb dL_law_916 (lv_at hl 1 rfl) ?_
  refine lv_if_ne (tgt := 933) hx hb dL_law_918 (by decide) (fun _ => ?_) (fun h9 => ?_)
  · refine lv_goto (tgt := 1680) hx hb dL_law_933 (by decide) ?_
    exact kk _ _ _ ⟨f', c', Z', g, hP, hD, hS, hJ1⟩ (lv_sub hl [2, 3, 4, 5, 6] rfl)
  have e9 : f' (nI 0).toNatClampNeg = bb.toInt64 := by rw [nI_clamp (by decide)]; exact han (h9.trans nI_0.symm)
  refine lv_aload_n hx hb dL_law_921 rfl (lv_at hl 5 rfl) ?_
  refine n_iconst hx hb 0 dL_law_922 (by decide) ?_
  refine va_lald hx hb hK hP 0 3 rfl rfl (vp_in_nI (show 0 < 1 by decide) (by decide)) dL_law_923 ?_
  refine lv_iload hx hb dL_law_924 (lv_at hl 0 rfl) ?_
  refine lv_i2l (v := bb.toInt64) hx hb dL_law_926 rfl ?_
  refine W.lcmp hx hb dL_law_927 ?_
  refine lv_if_eq (tgt := 933) hx hb dL_law_928 (by decide) (fun _ => ?_) (fun h9 => absurd (by rw [e9]; exact lg_self _) h9)
  refine lv_goto (tgt := 1680) hx hb dL_law_933 (by decide) ?_
  exact kk _ _ _ ⟨f', c', Z', g, hP, hD, hS, hJ1⟩ (lv_sub hl [2, 3, 4, 5, 6] rfl)
set_option maxHeartbeats 8000000 in
set_option maxRecDepth 100000 in
theorem lc_keep (E : lwE l p s m c b L xs G T) {i B cells slots : Nat} (hi : i + 3 < L) (hL : L ≤ 2048) (hB : B + 100 < 2 ^ 27) (hcs : cells + 1 ≤ 601024 ∧ slots + 6 ≤ 7293033) {H : Heap} {locs : List Loc} {ls : Array Slot} (hW : lwS s G T a ao q8 B H locs) (hl : lv_has ls 9 (lwV b a ao q8 i)) (kk : ∀ (H : Heap) (locs : List Loc) (ls : Array Slot), lwS s G T a ao q8 (B + 100) H locs → lv_has ls 9 (lwV b a ao q8 i) → W p l e room_1 s m #[Value.ref b] below meth c H locs (cells + 1) (slots + 6) Q (F0 m 1680 ls [])) : W p l e room_1 s m #[Value.ref b] below meth c H locs cells slots Q (F0 m 936 ls []) := by
  obtain ⟨hx, hb, hml, hown, hts, hX, hbl, hst, hK, hE, hgC, hgN⟩ := E
  obtain ⟨f, c9, Z, g, hP, hD, hS, hJ⟩ := hW
  have cx : CallFix p m c cL_law 9 s #[Value.ref b] wsLw RL := ⟨hx, hb, hml, hown, hts⟩
  have hA : ∀ q : Nat, s.heap.size ≤ q → (fun q : Nat => s.heap.size ≤ q) q := fun _ h => h
  have hbA : ¬ (fun q : Nat => s.heap.size ≤ q) b := Nat.not_le.mpr hbl
  have hl : lv_has ls 9 [(0, .ref b), (1, .ref (a.1 0)), (2, .ref (q8 0)), (3, .ref ao), (4, .int (nI i))] := hl
  obtain ⟨v, bb, c', Z', hL1, hX1, hvb, hJ1⟩ := st_keep l G T a q8 hB c9 Z hJ
  refine lv_aload_n hx hb dL_law_936 rfl (lv_at hl 1 rfl) ?_
  refine k_rwV (As := []) (rest := []) (wc := lwW T ao f a c9 q8 Z g) (wr := []) (w1 := lwW T ao f a c' q8 Z g) (mc := 0) (ms := 0) cx (RWi.fr (RWi.fr (hL1 H.size) (Fr.head (wO T ao f) (oC T a c9) (oC T a c'))) (Fr.tail (wO T ao f ++ oC T a c9) (wO T ao f ++ oC T a c') (oX8 T q8 Z g))) (cwV 0 hts hL_X7_keep rfl rfl rfl (by decide +kernel) ⟨Nat.le_of_ble_eq_true rfl, Nat.le_of_ble_eq_true rfl⟩) (kN_full hP hD hS hA hE hK) (va_recv hK hP (ci := 7) (q0 := 1) rfl rfl) rfl hl.1 rfl (Nat.le_of_ble_eq_true rfl) dL_law_937 ⟨by show cells + 0 ≤ 601024; omega, by show slots + 0 ≤ 7293033; omega⟩ (fun H locs hP hD hS hz => ?_)
  have hP : va_P G vwCl (lwW T ao f a c' q8 Z g) H := hP
  have hD : va_D (fun q : Nat => s.heap.size ≤ q) (lwW T ao f a c' q8 Z g) := hD
  refine lv_aload_n hx hb dL_law_940 rfl (lv_at hl 2 rfl) ?_
  have hP8 := va_Ptl hP
  refine k_rwV (As := []) (rest := [.int v]) (wc := lwW T ao f a c' q8 Z g) (wr := []) (w1 := lwW T ao f a c' q8 Z' g) (mc := 0) (ms := 0) cx (RWi.fr (hX1 H.size g) (Fr.head (wO T ao f ++ oC T a c') (oX8 T q8 Z g) (oX8 T q8 Z' g))) (cwV 0 hts hL_X8_keep rfl rfl rfl (by decide +kernel) ⟨Nat.le_of_ble_eq_true rfl, Nat.le_of_ble_eq_true rfl⟩) (kN_full hP hD hS hA hE hK) (va_recv hK hP8 (ci := 8) (q0 := 0) rfl rfl) rfl hl.1 rfl (Nat.le_of_ble_eq_true rfl) dL_law_941 ⟨by show cells + 0 + 0 ≤ 601024; omega, by show slots + 0 + 0 ≤ 7293033; omega⟩ (fun H locs hP hD hS hz => ?_)
  have hP : va_P G vwCl (lwW T ao f a c' q8 Z' g) H := hP
  have hD : va_D (fun q : Nat => s.heap.size ≤ q) (lwW T ao f a c' q8 Z' g) := hD
  refine lv_icmp_eq (tgt := 1680) hx hb dL_law_944 (by decide) (fun _ => ?_) (fun h9 => absurd hvb h9)
  exact W.widen (k := cells + 1) (n := slots + 6) (by omega) (by omega) (kk _ _ _ ⟨f, c', Z', g, hP, hD, hS, hJ1⟩ hl)
set_option maxHeartbeats 8000000 in
set_option maxRecDepth 100000 in
theorem lc_restore (E : lwE l p s m c b L xs G T) {i B cells slots : Nat} (hi : i + 3 < L) (hL : L ≤ 2048) (hB : B + 100 < 2 ^ 27) (hcs : cells + 1 ≤ 601024 ∧ slots + 6 ≤ 7293033) {H : Heap} {locs : List Loc} {ls : Array Slot} (hW : lwS s G T a ao q8 B H locs) (hl : lv_has ls 9 (lwV b a ao q8 i)) (kk : ∀ (H : Heap) (locs : List Loc) (ls : Array Slot), lwS s G T a ao q8 (B + 100) H locs → lv_has ls 9 (lwV b a ao q8 i) → W p l e room_1 s m #[Value.ref b] below meth c H locs (cells + 1) (slots + 6) Q (F0 m 1680 ls [])) : W p l e room_1 s m #[Value.ref b] below meth c H locs cells slots Q (F0 m 949 ls []) := by
  obtain ⟨hx, hb, hml, hown, hts, hX, hbl, hst, hK, hE, hgC, hgN⟩ := E
  obtain ⟨f, c9, Z, g, hP, hD, hS, hJ⟩ := hW
  have cx : CallFix p m c cL_law 9 s #[Value.ref b] wsLw RL := ⟨hx, hb, hml, hown, hts⟩
  have hA : ∀ q : Nat, s.heap.size ≤ q → (fun q : Nat => s.heap.size ≤ q) q := fun _ h => h
  have hbA : ¬ (fun q : Nat => s.heap.size ≤ q) b := Nat.not_le.mpr hbl
  have hl : lv_has ls 9 [(0, .ref b), (1, .ref (a.1 0)), (2, .ref (q8 0)), (3, .ref ao), (4, .int (nI i))] := hl
  obtain ⟨d, v, bb, f', c', Z', hd, hL1, hX1, hth, han, hJ1⟩ := st_restore l hst G T a ao q8 hB f c9 Z  hJ
  refine lv_aload_n hx hb dL_law_949 rfl (lv_at hl 1 rfl) ?_
  refine lv_aload_n hx hb dL_law_950 rfl (lv_at hl 3 rfl) ?_
  refine k_lxS (As := [.ref (a.1 0), .ref ao]) (rest := []) (wc := lwW T ao f a c9 q8 Z g) (wr := []) (w1 := lwW T ao f' a c' q8 Z g) cx (RWx.fr (hL1 H.size) (Fr.tail (wO T ao f ++ oC T a c9) (wO T ao f' ++ oC T a c') (oX8 T q8 Z g))) (vx_cwSW 2 hts hL_L_restore rfl rfl rfl (by decide +kernel) ⟨by show d + 1 ≤ 17; omega, by show 8 + (_ + 11) + 40 * d ≤ 664; omega⟩) (kN_full hP hD hS hA hE hK) hgC hgN rfl hl.1 rfl (Nat.le_of_ble_eq_true rfl) dL_law_951 hcs (fun H locs hP hD hS hz => ?_)
  have hP : va_P G vwCl (lwW T ao f' a c' q8 Z g) H := hP
  have hD : va_D (fun q : Nat => s.heap.size ≤ q) (lwW T ao f' a c' q8 Z g) := hD
  refine lv_istore (lv' := [(5, .int v), (0, .ref b), (1, .ref (a.1 0)), (2, .ref (q8 0)), (3, .ref ao), (4, .int (nI i))]) hx hb dL_law_954 hl (by decide) rfl (fun ls hl => ?_)
  refine lv_aload_n hx hb dL_law_956 rfl (lv_at hl 3 rfl) ?_
  have hP8 := va_Ptl hP
  refine k_rwV (As := []) (rest := []) (wc := lwW T ao f' a c' q8 Z g) (wr := []) (w1 := lwW T ao f' a c' q8 Z' g) (mc := 0) (ms := 0) cx (RWi.fr (hX1 H.size g) (Fr.head (wO T ao f' ++ oC T a c') (oX8 T q8 Z g) (oX8 T q8 Z' g))) (cwV 0 hts hL_X8_restore rfl rfl rfl (by decide +kernel) ⟨Nat.le_of_ble_eq_true rfl, Nat.le_of_ble_eq_true rfl⟩) (kN_full hP hD hS hA hE hK) (va_recv hK hP8 (ci := 8) (q0 := 0) rfl rfl) rfl hl.1 rfl (Nat.le_of_ble_eq_true rfl) dL_law_957 ⟨by show cells + 1 + 0 ≤ 601024; omega, by show slots + 6 + 0 ≤ 7293033; omega⟩ (fun H locs hP hD hS hz => ?_)
  have hP : va_P G vwCl (lwW T ao f' a c' q8 Z' g) H := hP
  have hD : va_D (fun q : Nat => s.heap.size ≤ q) (lwW T ao f' a c' q8 Z' g) := hD
  refine lv_istore (lv' := [(6, .int bb), (5, .int v), (0, .ref b), (1, .ref (a.1 0)), (2, .ref (q8 0)), (3, .ref ao), (4, .int (nI i))]) hx hb dL_law_960 hl (by decide) rfl (fun ls hl => ?_)
  refine lv_aload_n hx hb dL_law_962 rfl (lv_at hl 4 rfl) ?_
  have hP8 := va_Ptl hP
  refine k_roV (As := []) (rest := []) (wc := oX8 T q8 Z' g) (d := 0) (v := Z' 0 0) cx (c_X8_thrown l G T (fun q : Nat => s.heap.size ≤ q) q8 Z' g) (cwV 0 hts hL_X8_thrown rfl rfl rfl (by decide +kernel) ⟨Nat.le_of_ble_eq_true rfl, Nat.le_of_ble_eq_true rfl⟩) hP8 hK (hE.kept hS.2.1) (va_recv hK hP8 (ci := 8) (q0 := 0) rfl rfl) rfl hl.1 rfl (Nat.le_of_ble_eq_true rfl) dL_law_963 ⟨by show cells + 1 + 0 ≤ 601024; omega, by show slots + 6 + 0 ≤ 7293033; omega⟩ ?_
  refine lv_iload hx hb dL_law_966 (lv_at hl 1 rfl) ?_
  refine lv_icmp_eq (tgt := 973) hx hb dL_law_968 (by decide) (fun _ => ?_) (fun h9 => absurd hth h9)
  refine lv_iload hx hb dL_law_973 (lv_at hl 1 rfl) ?_
  refine lv_if_ne (tgt := 990) hx hb dL_law_975 (by decide) (fun _ => ?_) (fun h9 => ?_)
  · refine lv_goto (tgt := 1680) hx hb dL_law_990 (by decide) ?_
    exact kk _ _ _ ⟨f', c', Z', g, hP, hD, hS, hJ1⟩ (lv_sub hl [2, 3, 4, 5, 6] rfl)
  have e9 : f' (nI 0).toNatClampNeg = bb.toInt64 := by rw [nI_clamp (by decide)]; exact han (h9.trans nI_0.symm)
  refine lv_aload_n hx hb dL_law_978 rfl (lv_at hl 5 rfl) ?_
  refine n_iconst hx hb 0 dL_law_979 (by decide) ?_
  refine va_lald hx hb hK hP 0 3 rfl rfl (vp_in_nI (show 0 < 1 by decide) (by decide)) dL_law_980 ?_
  refine lv_iload hx hb dL_law_981 (lv_at hl 0 rfl) ?_
  refine lv_i2l (v := bb.toInt64) hx hb dL_law_983 rfl ?_
  refine W.lcmp hx hb dL_law_984 ?_
  refine lv_if_eq (tgt := 990) hx hb dL_law_985 (by decide) (fun _ => ?_) (fun h9 => absurd (by rw [e9]; exact lg_self _) h9)
  refine lv_goto (tgt := 1680) hx hb dL_law_990 (by decide) ?_
  exact kk _ _ _ ⟨f', c', Z', g, hP, hD, hS, hJ1⟩ (lv_sub hl [2, 3, 4, 5, 6] rfl)
end LC
