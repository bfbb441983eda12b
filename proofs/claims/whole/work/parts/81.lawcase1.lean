/-! the law's cases 0 to 4 (printed by wip/whole/mklc.py) -/
section LC
variable {p : Program} {l : Launch} {e : Env} {s : State} {m : MethodId} {below : List Frame} {meth : Method} {c : Code} {b L : Nat} {xs : Nat → Int32} {G : va_G} {T : Nat → ClassId} {a : CA} {ao : Nat} {q8 : Nat → Nat} {Q : State → Prop}
set_option maxHeartbeats 8000000 in
set_option maxRecDepth 100000 in
theorem lc_teach (E : lwE l p s m c b L xs G T) {i B cells slots : Nat} (hi : i + 3 < L) (hL : L ≤ 2048) (hB : B + 100 < 2 ^ 27) (hcs : cells + 1 ≤ 601024 ∧ slots + 6 ≤ 7293033) {H : Heap} {locs : List Loc} {ls : Array Slot} (hW : lwS s G T a ao q8 B H locs) (hl : lv_has ls 9 (lwV b a ao q8 i)) (kk : ∀ (H : Heap) (locs : List Loc) (ls : Array Slot), lwS s G T a ao q8 (B + 100) H locs → lv_has ls 9 (lwV b a ao q8 i) → W p l e room_1 s m #[Value.ref b] below meth c H locs (cells + 1) (slots + 6) Q (F0 m 1680 ls [])) : W p l e room_1 s m #[Value.ref b] below meth c H locs cells slots Q (F0 m 172 ls []) := by
  obtain ⟨hx, hb, hml, hown, hts, hX, hbl, hst, hK, hE, hgC, hgN⟩ := E
  obtain ⟨f, c9, Z, g, hP, hD, hS, hJ⟩ := hW
  have cx : CallFix p m c cL_law 9 s #[Value.ref b] wsLw RL := ⟨hx, hb, hml, hown, hts⟩
  have hA : ∀ q : Nat, s.heap.size ≤ q → (fun q : Nat => s.heap.size ≤ q) q := fun _ h => h
  have hbA : ¬ (fun q : Nat => s.heap.size ≤ q) b := Nat.not_le.mpr hbl
  have hl : lv_has ls 9 [(0, .ref b), (1, .ref (a.1 0)), (2, .ref (q8 0)), (3, .ref ao), (4, .int (nI i))] := hl
  obtain ⟨d, v, bb, f', c', Z', hd, hL1, hX1, hth, han, hJ1⟩ := st_teach l hst G T a ao q8 hB f c9 Z (xs (i + 1)) hJ
  refine lv_aload_n hx hb dL_law_172 rfl (lv_at hl 1 rfl) ?_
  refine lv_aload_n hx hb dL_law_173 rfl (lv_at hl 0 rfl) ?_
  refine lv_iload hx hb dL_law_174 (lv_at hl 4 rfl) ?_
  refine n_iconst hx hb 1 dL_law_176 (by decide) ?_
  refine n_iadd hx hb dL_law_177 ?_
  refine va_sld hx hb hX hbl hbA hS (vp_in_nI (show i + 1 < L by omega) (by omega)) dL_law_178 ?_
  refine n_top (y := xs (i + 1)) (by rw [nI_clamp (by omega)]) ?_
  refine lv_aload_n hx hb dL_law_179 rfl (lv_at hl 3 rfl) ?_
  refine k_lxS (As := [.ref (a.1 0), .int (xs (i + 1)), .ref ao]) (rest := []) (wc := lwW T ao f a c9 q8 Z g) (wr := []) (w1 := lwW T ao f' a c' q8 Z g) cx (RWx.fr (hL1 H.size) (Fr.tail (wO T ao f ++ oC T a c9) (wO T ao f' ++ oC T a c') (oX8 T q8 Z g))) (vx_cwSW 3 hts hL_L_teach rfl rfl rfl (by decide +kernel) ⟨by show d + 1 ≤ 17; omega, by show 8 + (_ + 11) + 40 * d ≤ 664; omega⟩) (kN_full hP hD hS hA hE hK) hgC hgN rfl hl.1 rfl (Nat.le_of_ble_eq_true rfl) dL_law_180 hcs (fun H locs hP hD hS hz => ?_)
  have hP : va_P G vwCl (lwW T ao f' a c' q8 Z g) H := hP
  have hD : va_D (fun q : Nat => s.heap.size ≤ q) (lwW T ao f' a c' q8 Z g) := hD
  refine lv_istore (lv' := [(5, .int v), (0, .ref b), (1, .ref (a.1 0)), (2, .ref (q8 0)), (3, .ref ao), (4, .int (nI i))]) hx hb dL_law_183 hl (by decide) rfl (fun ls hl => ?_)
  refine lv_aload_n hx hb dL_law_185 rfl (lv_at hl 3 rfl) ?_
  refine lv_aload_n hx hb dL_law_186 rfl (lv_at hl 1 rfl) ?_
  refine lv_iload hx hb dL_law_187 (lv_at hl 5 rfl) ?_
  refine n_iconst hx hb 1 dL_law_189 (by decide) ?_
  refine n_iadd hx hb dL_law_190 ?_
  refine va_sld hx hb hX hbl hbA hS (vp_in_nI (show i + 1 < L by omega) (by omega)) dL_law_191 ?_
  refine n_top (y := xs (i + 1)) (by rw [nI_clamp (by omega)]) ?_
  have hP8 := va_Ptl hP
  refine k_rwV (As := [.int (xs (i + 1))]) (rest := []) (wc := lwW T ao f' a c' q8 Z g) (wr := []) (w1 := lwW T ao f' a c' q8 Z' g) (mc := 0) (ms := 0) cx (RWi.fr (hX1 H.size g) (Fr.head (wO T ao f' ++ oC T a c') (oX8 T q8 Z g) (oX8 T q8 Z' g))) (cwV 1 hts hL_X8_teach rfl rfl rfl (by decide +kernel) ⟨Nat.le_of_ble_eq_true rfl, Nat.le_of_ble_eq_true rfl⟩) (kN_full hP hD hS hA hE hK) (va_recv hK hP8 (ci := 8) (q0 := 0) rfl rfl) rfl hl.1 rfl (Nat.le_of_ble_eq_true rfl) dL_law_192 ⟨by show cells + 1 + 0 ≤ 601024; omega, by show slots + 6 + 0 ≤ 7293033; omega⟩ (fun H locs hP hD hS hz => ?_)
  have hP : va_P G vwCl (lwW T ao f' a c' q8 Z' g) H := hP
  have hD : va_D (fun q : Nat => s.heap.size ≤ q) (lwW T ao f' a c' q8 Z' g) := hD
  refine lv_istore (lv' := [(6, .int bb), (5, .int v), (0, .ref b), (1, .ref (a.1 0)), (2, .ref (q8 0)), (3, .ref ao), (4, .int (nI i))]) hx hb dL_law_195 hl (by decide) rfl (fun ls hl => ?_)
  refine lv_aload_n hx hb dL_law_197 rfl (lv_at hl 4 rfl) ?_
  have hP8 := va_Ptl hP
  refine k_roV (As := []) (rest := []) (wc := oX8 T q8 Z' g) (d := 0) (v := Z' 0 0) cx (c_X8_thrown l G T (fun q : Nat => s.heap.size ≤ q) q8 Z' g) (cwV 0 hts hL_X8_thrown rfl rfl rfl (by decide +kernel) ⟨Nat.le_of_ble_eq_true rfl, Nat.le_of_ble_eq_true rfl⟩) hP8 hK (hE.kept hS.2.1) (va_recv hK hP8 (ci := 8) (q0 := 0) rfl rfl) rfl hl.1 rfl (Nat.le_of_ble_eq_true rfl) dL_law_198 ⟨by show cells + 1 + 0 ≤ 601024; omega, by show slots + 6 + 0 ≤ 7293033; omega⟩ ?_
  refine lv_iload hx hb dL_law_201 (lv_at hl 1 rfl) ?_
  refine lv_icmp_eq (tgt := 208) hx hb dL_law_203 (by decide) (fun _ => ?_) (fun h9 => absurd hth h9)
  refine lv_iload hx hb dL_law_208 (lv_at hl 1 rfl) ?_
  refine lv_if_ne (tgt := 225) hx hb dL_law_210 (by decide) (fun _ => ?_) (fun h9 => ?_)
  · refine lv_goto (tgt := 1680) hx hb dL_law_225 (by decide) ?_
    exact kk _ _ _ ⟨f', c', Z', g, hP, hD, hS, hJ1⟩ (lv_sub hl [2, 3, 4, 5, 6] rfl)
  have e9 : f' (nI 0).toNatClampNeg = bb.toInt64 := by rw [nI_clamp (by decide)]; exact han (h9.trans nI_0.symm)
  refine lv_aload_n hx hb dL_law_213 rfl (lv_at hl 5 rfl) ?_
  refine n_iconst hx hb 0 dL_law_214 (by decide) ?_
  refine va_lald hx hb hK hP 0 3 rfl rfl (vp_in_nI (show 0 < 1 by decide) (by decide)) dL_law_215 ?_
  refine lv_iload hx hb dL_law_216 (lv_at hl 0 rfl) ?_
  refine lv_i2l (v := bb.toInt64) hx hb dL_law_218 rfl ?_
  refine W.lcmp hx hb dL_law_219 ?_
  refine lv_if_eq (tgt := 225) hx hb dL_law_220 (by decide) (fun _ => ?_) (fun h9 => absurd (by rw [e9]; exact lg_self _) h9)
  refine lv_goto (tgt := 1680) hx hb dL_law_225 (by decide) ?_
  exact kk _ _ _ ⟨f', c', Z', g, hP, hD, hS, hJ1⟩ (lv_sub hl [2, 3, 4, 5, 6] rfl)
set_option maxHeartbeats 8000000 in
set_option maxRecDepth 100000 in
theorem lc_forget (E : lwE l p s m c b L xs G T) {i B cells slots : Nat} (hi : i + 3 < L) (hL : L ≤ 2048) (hB : B + 100 < 2 ^ 27) (hcs : cells + 1 ≤ 601024 ∧ slots + 6 ≤ 7293033) {H : Heap} {locs : List Loc} {ls : Array Slot} (hW : lwS s G T a ao q8 B H locs) (hl : lv_has ls 9 (lwV b a ao q8 i)) (kk : ∀ (H : Heap) (locs : List Loc) (ls : Array Slot), lwS s G T a ao q8 (B + 100) H locs → lv_has ls 9 (lwV b a ao q8 i) → W p l e room_1 s m #[Value.ref b] below meth c H locs (cells + 1) (slots + 6) Q (F0 m 1680 ls [])) : W p l e room_1 s m #[Value.ref b] below meth c H locs cells slots Q (F0 m 228 ls []) := by
  obtain ⟨hx, hb, hml, hown, hts, hX, hbl, hst, hK, hE, hgC, hgN⟩ := E
  obtain ⟨f, c9, Z, g, hP, hD, hS, hJ⟩ := hW
  have cx : CallFix p m c cL_law 9 s #[Value.ref b] wsLw RL := ⟨hx, hb, hml, hown, hts⟩
  have hA : ∀ q : Nat, s.heap.size ≤ q → (fun q : Nat => s.heap.size ≤ q) q := fun _ h => h
  have hbA : ¬ (fun q : Nat => s.heap.size ≤ q) b := Nat.not_le.mpr hbl
  have hl : lv_has ls 9 [(0, .ref b), (1, .ref (a.1 0)), (2, .ref (q8 0)), (3, .ref ao), (4, .int (nI i))] := hl
  obtain ⟨d, v, bb, f', c', Z', hd, hL1, hX1, hth, han, hJ1⟩ := st_forget l hst G T a ao q8 hB f c9 Z (xs (i + 1)) hJ
  refine lv_aload_n hx hb dL_law_228 rfl (lv_at hl 1 rfl) ?_
  refine lv_aload_n hx hb dL_law_229 rfl (lv_at hl 0 rfl) ?_
  refine lv_iload hx hb dL_law_230 (lv_at hl 4 rfl) ?_
  refine n_iconst hx hb 1 dL_law_232 (by decide) ?_
  refine n_iadd hx hb dL_law_233 ?_
  refine va_sld hx hb hX hbl hbA hS (vp_in_nI (show i + 1 < L by omega) (by omega)) dL_law_234 ?_
  refine n_top (y := xs (i + 1)) (by rw [nI_clamp (by omega)]) ?_
  refine lv_aload_n hx hb dL_law_235 rfl (lv_at hl 3 rfl) ?_
  refine k_lxS (As := [.ref (a.1 0), .int (xs (i + 1)), .ref ao]) (rest := []) (wc := lwW T ao f a c9 q8 Z g) (wr := []) (w1 := lwW T ao f' a c' q8 Z g) cx (RWx.fr (hL1 H.size) (Fr.tail (wO T ao f ++ oC T a c9) (wO T ao f' ++ oC T a c') (oX8 T q8 Z g))) (vx_cwSW 3 hts hL_L_forget rfl rfl rfl (by decide +kernel) ⟨by show d + 1 ≤ 17; omega, by show 8 + (_ + 11) + 40 * d ≤ 664; omega⟩) (kN_full hP hD hS hA hE hK) hgC hgN rfl hl.1 rfl (Nat.le_of_ble_eq_true rfl) dL_law_236 hcs (fun H locs hP hD hS hz => ?_)
  have hP : va_P G vwCl (lwW T ao f' a c' q8 Z g) H := hP
  have hD : va_D (fun q : Nat => s.heap.size ≤ q) (lwW T ao f' a c' q8 Z g) := hD
  refine lv_istore (lv' := [(5, .int v), (0, .ref b), (1, .ref (a.1 0)), (2, .ref (q8 0)), (3, .ref ao), (4, .int (nI i))]) hx hb dL_law_239 hl (by decide) rfl (fun ls hl => ?_)
  refine lv_aload_n hx hb dL_law_241 rfl (lv_at hl 3 rfl) ?_
  refine lv_aload_n hx hb dL_law_242 rfl (lv_at hl 1 rfl) ?_
  refine lv_iload hx hb dL_law_243 (lv_at hl 5 rfl) ?_
  refine n_iconst hx hb 1 dL_law_245 (by decide) ?_
  refine n_iadd hx hb dL_law_246 ?_
  refine va_sld hx hb hX hbl hbA hS (vp_in_nI (show i + 1 < L by omega) (by omega)) dL_law_247 ?_
  refine n_top (y := xs (i + 1)) (by rw [nI_clamp (by omega)]) ?_
  have hP8 := va_Ptl hP
  refine k_rwV (As := [.int (xs (i + 1))]) (rest := []) (wc := lwW T ao f' a c' q8 Z g) (wr := []) (w1 := lwW T ao f' a c' q8 Z' g) (mc := 0) (ms := 0) cx (RWi.fr (hX1 H.size g) (Fr.head (wO T ao f' ++ oC T a c') (oX8 T q8 Z g) (oX8 T q8 Z' g))) (cwV 1 hts hL_X8_forget rfl rfl rfl (by decide +kernel) ⟨Nat.le_of_ble_eq_true rfl, Nat.le_of_ble_eq_true rfl⟩) (kN_full hP hD hS hA hE hK) (va_recv hK hP8 (ci := 8) (q0 := 0) rfl rfl) rfl hl.1 rfl (Nat.le_of_ble_eq_true rfl) dL_law_248 ⟨by show cells + 1 + 0 ≤ 601024; omega, by show slots + 6 + 0 ≤ 7293033; omega⟩ (fun H locs hP hD hS hz => ?_)
  have hP : va_P G vwCl (lwW T ao f' a c' q8 Z' g) H := hP
  have hD : va_D (fun q : Nat => s.heap.size ≤ q) (lwW T ao f' a c' q8 Z' g) := hD
  refine lv_istore (lv' := [(6, .int bb), (5, .int v), (0, .ref b), (1, .ref (a.1 0)), (2, .ref (q8 0)), (3, .ref ao), (4, .int (nI i))]) hx hb dL_law_251 hl (by decide) rfl (fun ls hl => ?_)
  refine lv_aload_n hx hb dL_law_253 rfl (lv_at hl 4 rfl) ?_
  have hP8 := va_Ptl hP
  refine k_roV (As := []) (rest := []) (wc := oX8 T q8 Z' g) (d := 0) (v := Z' 0 0) cx (c_X8_thrown l G T (fun q : Nat => s.heap.size ≤ q) q8 Z' g) (cwV 0 hts hL_X8_thrown rfl rfl rfl (by decide +kernel) ⟨Nat.le_of_ble_eq_true rfl, Nat.le_of_ble_eq_true rfl⟩) hP8 hK (hE.kept hS.2.1) (va_recv hK hP8 (ci := 8) (q0 := 0) rfl rfl) rfl hl.1 rfl (Nat.le_of_ble_eq_true rfl) dL_law_254 ⟨by show cells + 1 + 0 ≤ 601024; omega, by show slots + 6 + 0 ≤ 7293033; omega⟩ ?_
  refine lv_iload hx hb dL_law_257 (lv_at hl 1 rfl) ?_
  refine lv_icmp_eq (tgt := 264) hx hb dL_law_259 (by decide) (fun _ => ?_) (fun h9 => absurd hth h9)
  refine lv_iload hx hb dL_law_264 (lv_at hl 1 rfl) ?_
  refine lv_if_ne (tgt := 281) hx hb dL_law_266 (by decide) (fun _ => ?_) (fun h9 => ?_)
  · refine lv_goto (tgt := 1680) hx hb dL_law_281 (by decide) ?_
    exact kk _ _ _ ⟨f', c', Z', g, hP, hD, hS, hJ1⟩ (lv_sub hl [2, 3, 4, 5, 6] rfl)
  have e9 : f' (nI 0).toNatClampNeg = bb.toInt64 := by rw [nI_clamp (by decide)]; exact han (h9.trans nI_0.symm)
  refine lv_aload_n hx hb dL_law_269 rfl (lv_at hl 5 rfl) ?_
  refine n_iconst hx hb 0 dL_law_270 (by decide) ?_
  refine va_lald hx hb hK hP 0 3 rfl rfl (vp_in_nI (show 0 < 1 by decide) (by decide)) dL_law_271 ?_
  refine lv_iload hx hb dL_law_272 (lv_at hl 0 rfl) ?_
  refine lv_i2l (v := bb.toInt64) hx hb dL_law_274 rfl ?_
  refine W.lcmp hx hb dL_law_275 ?_
  refine lv_if_eq (tgt := 281) hx hb dL_law_276 (by decide) (fun _ => ?_) (fun h9 => absurd (by rw [e9]; exact lg_self _) h9)
  refine lv_goto (tgt := 1680) hx hb dL_law_281 (by decide) ?_
  exact kk _ _ _ ⟨f', c', Z', g, hP, hD, hS, hJ1⟩ (lv_sub hl [2, 3, 4, 5, 6] rfl)
set_option maxHeartbeats 8000000 in
set_option maxRecDepth 100000 in
theorem lc_key (E : lwE l p s m c b L xs G T) {i B cells slots : Nat} (hi : i + 3 < L) (hL : L ≤ 2048) (hB : B + 100 < 2 ^ 27) (hcs : cells + 1 ≤ 601024 ∧ slots + 6 ≤ 7293033) {H : Heap} {locs : List Loc} {ls : Array Slot} (hW : lwS s G T a ao q8 B H locs) (hl : lv_has ls 9 (lwV b a ao q8 i)) (kk : ∀ (H : Heap) (locs : List Loc) (ls : Array Slot), lwS s G T a ao q8 (B + 100) H locs → lv_has ls 9 (lwV b a ao q8 i) → W p l e room_1 s m #[Value.ref b] below meth c H locs (cells + 1) (slots + 6) Q (F0 m 1680 ls [])) : W p l e room_1 s m #[Value.ref b] below meth c H locs cells slots Q (F0 m 284 ls []) := by
  obtain ⟨hx, hb, hml, hown, hts, hX, hbl, hst, hK, hE, hgC, hgN⟩ := E
  obtain ⟨f, c9, Z, g, hP, hD, hS, hJ⟩ := hW
  have cx : CallFix p m c cL_law 9 s #[Value.ref b] wsLw RL := ⟨hx, hb, hml, hown, hts⟩
  have hA : ∀ q : Nat, s.heap.size ≤ q → (fun q : Nat => s.heap.size ≤ q) q := fun _ h => h
  have hbA : ¬ (fun q : Nat => s.heap.size ≤ q) b := Nat.not_le.mpr hbl
  have hl : lv_has ls 9 [(0, .ref b), (1, .ref (a.1 0)), (2, .ref (q8 0)), (3, .ref ao), (4, .int (nI i))] := hl
  obtain ⟨d, v, bb, f', c', Z', hd, hL1, hX1, hth, han, hJ1⟩ := st_key l hst G T a ao q8 hB f c9 Z (xs (i + 1)) hJ
  refine lv_aload_n hx hb dL_law_284 rfl (lv_at hl 1 rfl) ?_
  refine lv_aload_n hx hb dL_law_285 rfl (lv_at hl 0 rfl) ?_
  refine lv_iload hx hb dL_law_286 (lv_at hl 4 rfl) ?_
  refine n_iconst hx hb 1 dL_law_288 (by decide) ?_
  refine n_iadd hx hb dL_law_289 ?_
  refine va_sld hx hb hX hbl hbA hS (vp_in_nI (show i + 1 < L by omega) (by omega)) dL_law_290 ?_
  refine n_top (y := xs (i + 1)) (by rw [nI_clamp (by omega)]) ?_
  refine lv_aload_n hx hb dL_law_291 rfl (lv_at hl 3 rfl) ?_
  refine k_lxS (As := [.ref (a.1 0), .int (xs (i + 1)), .ref ao]) (rest := []) (wc := lwW T ao f a c9 q8 Z g) (wr := []) (w1 := lwW T ao f' a c' q8 Z g) cx (RWx.fr (hL1 H.size) (Fr.tail (wO T ao f ++ oC T a c9) (wO T ao f' ++ oC T a c') (oX8 T q8 Z g))) (vx_cwSW 3 hts hL_L_key rfl rfl rfl (by decide +kernel) ⟨by show d + 1 ≤ 17; omega, by show 8 + (_ + 11) + 40 * d ≤ 664; omega⟩) (kN_full hP hD hS hA hE hK) hgC hgN rfl hl.1 rfl (Nat.le_of_ble_eq_true rfl) dL_law_292 hcs (fun H locs hP hD hS hz => ?_)
  have hP : va_P G vwCl (lwW T ao f' a c' q8 Z g) H := hP
  have hD : va_D (fun q : Nat => s.heap.size ≤ q) (lwW T ao f' a c' q8 Z g) := hD
  refine lv_istore (lv' := [(5, .int v), (0, .ref b), (1, .ref (a.1 0)), (2, .ref (q8 0)), (3, .ref ao), (4, .int (nI i))]) hx hb dL_law_295 hl (by decide) rfl (fun ls hl => ?_)
  refine lv_aload_n hx hb dL_law_297 rfl (lv_at hl 3 rfl) ?_
  refine lv_aload_n hx hb dL_law_298 rfl (lv_at hl 1 rfl) ?_
  refine lv_iload hx hb dL_law_299 (lv_at hl 5 rfl) ?_
  refine n_iconst hx hb 1 dL_law_301 (by decide) ?_
  refine n_iadd hx hb dL_law_302 ?_
  refine va_sld hx hb hX hbl hbA hS (vp_in_nI (show i + 1 < L by omega) (by omega)) dL_law_303 ?_
  refine n_top (y := xs (i + 1)) (by rw [nI_clamp (by omega)]) ?_
  have hP8 := va_Ptl hP
  refine k_rwV (As := [.int (xs (i + 1))]) (rest := []) (wc := lwW T ao f' a c' q8 Z g) (wr := []) (w1 := lwW T ao f' a c' q8 Z' g) (mc := 0) (ms := 0) cx (RWi.fr (hX1 H.size g) (Fr.head (wO T ao f' ++ oC T a c') (oX8 T q8 Z g) (oX8 T q8 Z' g))) (cwV 1 hts hL_X8_key rfl rfl rfl (by decide +kernel) ⟨Nat.le_of_ble_eq_true rfl, Nat.le_of_ble_eq_true rfl⟩) (kN_full hP hD hS hA hE hK) (va_recv hK hP8 (ci := 8) (q0 := 0) rfl rfl) rfl hl.1 rfl (Nat.le_of_ble_eq_true rfl) dL_law_304 ⟨by show cells + 1 + 0 ≤ 601024; omega, by show slots + 6 + 0 ≤ 7293033; omega⟩ (fun H locs hP hD hS hz => ?_)
  have hP : va_P G vwCl (lwW T ao f' a c' q8 Z' g) H := hP
  have hD : va_D (fun q : Nat => s.heap.size ≤ q) (lwW T ao f' a c' q8 Z' g) := hD
  refine lv_istore (lv' := [(6, .int bb), (5, .int v), (0, .ref b), (1, .ref (a.1 0)), (2, .ref (q8 0)), (3, .ref ao), (4, .int (nI i))]) hx hb dL_law_307 hl (by decide) rfl (fun ls hl => ?_)
  refine lv_aload_n hx hb dL_law_309 rfl (lv_at hl 4 rfl) ?_
  have hP8 := va_Ptl hP
  refine k_roV (As := []) (rest := []) (wc := oX8 T q8 Z' g) (d := 0) (v := Z' 0 0) cx (c_X8_thrown l G T (fun q : Nat => s.heap.size ≤ q) q8 Z' g) (cwV 0 hts hL_X8_thrown rfl rfl rfl (by decide +kernel) ⟨Nat.le_of_ble_eq_true rfl, Nat.le_of_ble_eq_true rfl⟩) hP8 hK (hE.kept hS.2.1) (va_recv hK hP8 (ci := 8) (q0 := 0) rfl rfl) rfl hl.1 rfl (Nat.le_of_ble_eq_true rfl) dL_law_310 ⟨by show cells + 1 + 0 ≤ 601024; omega, by show slots + 6 + 0 ≤ 7293033; omega⟩ ?_
  refine lv_iload hx hb dL_law_313 (lv_at hl 1 rfl) ?_
  refine lv_icmp_eq (tgt := 320) hx hb dL_law_315 (by decide) (fun _ => ?_) (fun h9 => absurd hth h9)
  refine lv_iload hx hb dL_law_320 (lv_at hl 1 rfl) ?_
  refine lv_if_ne (tgt := 337) hx hb dL_law_322 (by decide) (fun _ => ?_) (fun h9 => ?_)
  · refine lv_goto (tgt := 1680) hx hb dL_law_337 (by decide) ?_
    exact kk _ _ _ ⟨f', c', Z', g, hP, hD, hS, hJ1⟩ (lv_sub hl [2, 3, 4, 5, 6] rfl)
  have e9 : f' (nI 0).toNatClampNeg = bb.toInt64 := by rw [nI_clamp (by decide)]; exact han (h9.trans nI_0.symm)
  refine lv_aload_n hx hb dL_law_325 rfl (lv_at hl 5 rfl) ?_
  refine n_iconst hx hb 0 dL_law_326 (by decide) ?_
  refine va_lald hx hb hK hP 0 3 rfl rfl (vp_in_nI (show 0 < 1 by decide) (by decide)) dL_law_327 ?_
  refine lv_iload hx hb dL_law_328 (lv_at hl 0 rfl) ?_
  refine lv_i2l (v := bb.toInt64) hx hb dL_law_330 rfl ?_
  refine W.lcmp hx hb dL_law_331 ?_
  refine lv_if_eq (tgt := 337) hx hb dL_law_332 (by decide) (fun _ => ?_) (fun h9 => absurd (by rw [e9]; exact lg_self _) h9)
  refine lv_goto (tgt := 1680) hx hb dL_law_337 (by decide) ?_
  exact kk _ _ _ ⟨f', c', Z', g, hP, hD, hS, hJ1⟩ (lv_sub hl [2, 3, 4, 5, 6] rfl)
set_option maxHeartbeats 8000000 in
set_option maxRecDepth 100000 in
theorem lc_tell (E : lwE l p s m c b L xs G T) {i B cells slots : Nat} (hi : i + 3 < L) (hL : L ≤ 2048) (hB : B + 100 < 2 ^ 27) (hcs : cells + 1 ≤ 601024 ∧ slots + 6 ≤ 7293033) {H : Heap} {locs : List Loc} {ls : Array Slot} (hW : lwS s G T a ao q8 B H locs) (hl : lv_has ls 9 (lwV b a ao q8 i)) (kk : ∀ (H : Heap) (locs : List Loc) (ls : Array Slot), lwS s G T a ao q8 (B + 100) H locs → lv_has ls 9 (lwV b a ao q8 i) → W p l e room_1 s m #[Value.ref b] below meth c H locs (cells + 1) (slots + 6) Q (F0 m 1680 ls [])) : W p l e room_1 s m #[Value.ref b] below meth c H locs cells slots Q (F0 m 340 ls []) := by
  obtain ⟨hx, hb, hml, hown, hts, hX, hbl, hst, hK, hE, hgC, hgN⟩ := E
  obtain ⟨f, c9, Z, g, hP, hD, hS, hJ⟩ := hW
  have cx : CallFix p m c cL_law 9 s #[Value.ref b] wsLw RL := ⟨hx, hb, hml, hown, hts⟩
  have hA : ∀ q : Nat, s.heap.size ≤ q → (fun q : Nat => s.heap.size ≤ q) q := fun _ h => h
  have hbA : ¬ (fun q : Nat => s.heap.size ≤ q) b := Nat.not_le.mpr hbl
  have hl : lv_has ls 9 [(0, .ref b), (1, .ref (a.1 0)), (2, .ref (q8 0)), (3, .ref ao), (4, .int (nI i))] := hl
  obtain ⟨d, v, bb, f', c', Z', hd, hL1, hX1, hth, han, hJ1⟩ := st_tell l hst G T a ao q8 hB f c9 Z (xs (i + 1)) hJ
  refine lv_aload_n hx hb dL_law_340 rfl (lv_at hl 1 rfl) ?_
  refine lv_aload_n hx hb dL_law_341 rfl (lv_at hl 0 rfl) ?_
  refine lv_iload hx hb dL_law_342 (lv_at hl 4 rfl) ?_
  refine n_iconst hx hb 1 dL_law_344 (by decide) ?_
  refine n_iadd hx hb dL_law_345 ?_
  refine va_sld hx hb hX hbl hbA hS (vp_in_nI (show i + 1 < L by omega) (by omega)) dL_law_346 ?_
  refine n_top (y := xs (i + 1)) (by rw [nI_clamp (by omega)]) ?_
  refine lv_aload_n hx hb dL_law_347 rfl (lv_at hl 3 rfl) ?_
  refine k_lxS (As := [.ref (a.1 0), .int (xs (i + 1)), .ref ao]) (rest := []) (wc := lwW T ao f a c9 q8 Z g) (wr := []) (w1 := lwW T ao f' a c' q8 Z g) cx (RWx.fr (hL1 H.size) (Fr.tail (wO T ao f ++ oC T a c9) (wO T ao f' ++ oC T a c') (oX8 T q8 Z g))) (vx_cwSW 3 hts hL_L_tell rfl rfl rfl (by decide +kernel) ⟨by show d + 1 ≤ 17; omega, by show 8 + (_ + 11) + 40 * d ≤ 664; omega⟩) (kN_full hP hD hS hA hE hK) hgC hgN rfl hl.1 rfl (Nat.le_of_ble_eq_true rfl) dL_law_348 hcs (fun H locs hP hD hS hz => ?_)
  have hP : va_P G vwCl (lwW T ao f' a c' q8 Z g) H := hP
  have hD : va_D (fun q : Nat => s.heap.size ≤ q) (lwW T ao f' a c' q8 Z g) := hD
  refine lv_istore (lv' := [(5, .int v), (0, .ref b), (1, .ref (a.1 0)), (2, .ref (q8 0)), (3, .ref ao), (4, .int (nI i))]) hx hb dL_law_351 hl (by decide) rfl (fun ls hl => ?_)
  refine lv_aload_n hx hb dL_law_353 rfl (lv_at hl 3 rfl) ?_
  refine lv_aload_n hx hb dL_law_354 rfl (lv_at hl 1 rfl) ?_
  refine lv_iload hx hb dL_law_355 (lv_at hl 5 rfl) ?_
  refine n_iconst hx hb 1 dL_law_357 (by decide) ?_
  refine n_iadd hx hb dL_law_358 ?_
  refine va_sld hx hb hX hbl hbA hS (vp_in_nI (show i + 1 < L by omega) (by omega)) dL_law_359 ?_
  refine n_top (y := xs (i + 1)) (by rw [nI_clamp (by omega)]) ?_
  have hP8 := va_Ptl hP
  refine k_rwV (As := [.int (xs (i + 1))]) (rest := []) (wc := lwW T ao f' a c' q8 Z g) (wr := []) (w1 := lwW T ao f' a c' q8 Z' g) (mc := 0) (ms := 0) cx (RWi.fr (hX1 H.size g) (Fr.head (wO T ao f' ++ oC T a c') (oX8 T q8 Z g) (oX8 T q8 Z' g))) (cwV 1 hts hL_X8_tell rfl rfl rfl (by decide +kernel) ⟨Nat.le_of_ble_eq_true rfl, Nat.le_of_ble_eq_true rfl⟩) (kN_full hP hD hS hA hE hK) (va_recv hK hP8 (ci := 8) (q0 := 0) rfl rfl) rfl hl.1 rfl (Nat.le_of_ble_eq_true rfl) dL_law_360 ⟨by show cells + 1 + 0 ≤ 601024; omega, by show slots + 6 + 0 ≤ 7293033; omega⟩ (fun H locs hP hD hS hz => ?_)
  have hP : va_P G vwCl (lwW T ao f' a c' q8 Z' g) H := hP
  have hD : va_D (fun q : Nat => s.heap.size ≤ q) (lwW T ao f' a c' q8 Z' g) := hD
  refine lv_istore (lv' := [(6, .int bb), (5, .int v), (0, .ref b), (1, .ref (a.1 0)), (2, .ref (q8 0)), (3, .ref ao), (4, .int (nI i))]) hx hb dL_law_363 hl (by decide) rfl (fun ls hl => ?_)
  refine lv_aload_n hx hb dL_law_365 rfl (lv_at hl 4 rfl) ?_
  have hP8 := va_Ptl hP
  refine k_roV (As := []) (rest := []) (wc := oX8 T q8 Z' g) (d := 0) (v := Z' 0 0) cx (c_X8_thrown l G T (fun q : Nat => s.heap.size ≤ q) q8 Z' g) (cwV 0 hts hL_X8_thrown rfl rfl rfl (by decide +kernel) ⟨Nat.le_of_ble_eq_true rfl, Nat.le_of_ble_eq_true rfl⟩) hP8 hK (hE.kept hS.2.1) (va_recv hK hP8 (ci := 8) (q0 := 0) rfl rfl) rfl hl.1 rfl (Nat.le_of_ble_eq_true rfl) dL_law_366 ⟨by show cells + 1 + 0 ≤ 601024; omega, by show slots + 6 + 0 ≤ 7293033; omega⟩ ?_
  refine lv_iload hx hb dL_law_369 (lv_at hl 1 rfl) ?_
  refine lv_icmp_eq (tgt := 376) hx hb dL_law_371 (by decide) (fun _ => ?_) (fun h9 => absurd hth h9)
  refine lv_iload hx hb dL_law_376 (lv_at hl 1 rfl) ?_
  refine lv_if_ne (tgt := 393) hx hb dL_law_378 (by decide) (fun _ => ?_) (fun h9 => ?_)
  · refine lv_goto (tgt := 1680) hx hb dL_law_393 (by decide) ?_
    exact kk _ _ _ ⟨f', c', Z', g, hP, hD, hS, hJ1⟩ (lv_sub hl [2, 3, 4, 5, 6] rfl)
  have e9 : f' (nI 0).toNatClampNeg = bb.toInt64 := by rw [nI_clamp (by decide)]; exact han (h9.trans nI_0.symm)
  refine lv_aload_n hx hb dL_law_381 rfl (lv_at hl 5 rfl) ?_
  refine n_iconst hx hb 0 dL_law_382 (by decide) ?_
  refine va_lald hx hb hK hP 0 3 rfl rfl (vp_in_nI (show 0 < 1 by decide) (by decide)) dL_law_383 ?_
  refine lv_iload hx hb dL_law_384 (lv_at hl 0 rfl) ?_
  refine lv_i2l (v := bb.toInt64) hx hb dL_law_386 rfl ?_
  refine W.lcmp hx hb dL_law_387 ?_
  refine lv_if_eq (tgt := 393) hx hb dL_law_388 (by decide) (fun _ => ?_) (fun h9 => absurd (by rw [e9]; exact lg_self _) h9)
  refine lv_goto (tgt := 1680) hx hb dL_law_393 (by decide) ?_
  exact kk _ _ _ ⟨f', c', Z', g, hP, hD, hS, hJ1⟩ (lv_sub hl [2, 3, 4, 5, 6] rfl)
set_option maxHeartbeats 8000000 in
set_option maxRecDepth 100000 in
theorem lc_lookout (E : lwE l p s m c b L xs G T) {i B cells slots : Nat} (hi : i + 3 < L) (hL : L ≤ 2048) (hB : B + 100 < 2 ^ 27) (hcs : cells + 1 ≤ 601024 ∧ slots + 6 ≤ 7293033) {H : Heap} {locs : List Loc} {ls : Array Slot} (hW : lwS s G T a ao q8 B H locs) (hl : lv_has ls 9 (lwV b a ao q8 i)) (kk : ∀ (H : Heap) (locs : List Loc) (ls : Array Slot), lwS s G T a ao q8 (B + 100) H locs → lv_has ls 9 (lwV b a ao q8 i) → W p l e room_1 s m #[Value.ref b] below meth c H locs (cells + 1) (slots + 6) Q (F0 m 1680 ls [])) : W p l e room_1 s m #[Value.ref b] below meth c H locs cells slots Q (F0 m 396 ls []) := by
  obtain ⟨hx, hb, hml, hown, hts, hX, hbl, hst, hK, hE, hgC, hgN⟩ := E
  obtain ⟨f, c9, Z, g, hP, hD, hS, hJ⟩ := hW
  have cx : CallFix p m c cL_law 9 s #[Value.ref b] wsLw RL := ⟨hx, hb, hml, hown, hts⟩
  have hA : ∀ q : Nat, s.heap.size ≤ q → (fun q : Nat => s.heap.size ≤ q) q := fun _ h => h
  have hbA : ¬ (fun q : Nat => s.heap.size ≤ q) b := Nat.not_le.mpr hbl
  have hl : lv_has ls 9 [(0, .ref b), (1, .ref (a.1 0)), (2, .ref (q8 0)), (3, .ref ao), (4, .int (nI i))] := hl
  by_cases h0 : xs (i + 2) = 0
  · obtain ⟨d, v, bb, f', c', Z', hd, hL1, hX1, hth, han, hJ1⟩ := st_lookout l hst G T a ao q8 hB f c9 Z (xs (i + 1)) false hJ
    refine lv_aload_n hx hb dL_law_396 rfl (lv_at hl 1 rfl) ?_
    refine lv_aload_n hx hb dL_law_397 rfl (lv_at hl 0 rfl) ?_
    refine lv_iload hx hb dL_law_398 (lv_at hl 4 rfl) ?_
    refine n_iconst hx hb 1 dL_law_400 (by decide) ?_
    refine n_iadd hx hb dL_law_401 ?_
    refine va_sld hx hb hX hbl hbA hS (vp_in_nI (show i + 1 < L by omega) (by omega)) dL_law_402 ?_
    refine n_top (y := xs (i + 1)) (by rw [nI_clamp (by omega)]) ?_
    refine lv_aload_n hx hb dL_law_403 rfl (lv_at hl 0 rfl) ?_
    refine lv_iload hx hb dL_law_404 (lv_at hl 4 rfl) ?_
    refine n_iconst hx hb 2 dL_law_406 (by decide) ?_
    refine n_iadd hx hb dL_law_407 ?_
    refine va_sld hx hb hX hbl hbA hS (vp_in_nI (show i + 2 < L by omega) (by omega)) dL_law_408 ?_
    refine n_top (y := xs (i + 2)) (by rw [nI_clamp (by omega)]) ?_
    refine lv_if_eq (tgt := 416) hx hb dL_law_409 (by decide) (fun _ => ?_) (fun h9 => absurd h0 h9)
    refine n_iconst hx hb 0 dL_law_416 (by decide) ?_
    refine n_top (y := bI false) rfl ?_
    refine lv_aload_n hx hb dL_law_417 rfl (lv_at hl 3 rfl) ?_
    refine k_lxS (As := [.ref (a.1 0), .int (xs (i + 1)), .int (bI false), .ref ao]) (rest := []) (wc := lwW T ao f a c9 q8 Z g) (wr := []) (w1 := lwW T ao f' a c' q8 Z g) cx (RWx.fr (hL1 H.size) (Fr.tail (wO T ao f ++ oC T a c9) (wO T ao f' ++ oC T a c') (oX8 T q8 Z g))) (vx_cwSW 4 hts hL_L_lookout rfl rfl rfl (by decide +kernel) ⟨by show d + 1 ≤ 17; omega, by show 8 + (_ + 11) + 40 * d ≤ 664; omega⟩) (kN_full hP hD hS hA hE hK) hgC hgN rfl hl.1 rfl (Nat.le_of_ble_eq_true rfl) dL_law_418 hcs (fun H locs hP hD hS hz => ?_)
    have hP : va_P G vwCl (lwW T ao f' a c' q8 Z g) H := hP
    have hD : va_D (fun q : Nat => s.heap.size ≤ q) (lwW T ao f' a c' q8 Z g) := hD
    refine lv_istore (lv' := [(5, .int v), (0, .ref b), (1, .ref (a.1 0)), (2, .ref (q8 0)), (3, .ref ao), (4, .int (nI i))]) hx hb dL_law_421 hl (by decide) rfl (fun ls hl => ?_)
    refine lv_aload_n hx hb dL_law_423 rfl (lv_at hl 3 rfl) ?_
    refine lv_aload_n hx hb dL_law_424 rfl (lv_at hl 1 rfl) ?_
    refine lv_iload hx hb dL_law_425 (lv_at hl 5 rfl) ?_
    refine n_iconst hx hb 1 dL_law_427 (by decide) ?_
    refine n_iadd hx hb dL_law_428 ?_
    refine va_sld hx hb hX hbl hbA hS (vp_in_nI (show i + 1 < L by omega) (by omega)) dL_law_429 ?_
    refine n_top (y := xs (i + 1)) (by rw [nI_clamp (by omega)]) ?_
    refine lv_aload_n hx hb dL_law_430 rfl (lv_at hl 1 rfl) ?_
    refine lv_iload hx hb dL_law_431 (lv_at hl 5 rfl) ?_
    refine n_iconst hx hb 2 dL_law_433 (by decide) ?_
    refine n_iadd hx hb dL_law_434 ?_
    refine va_sld hx hb hX hbl hbA hS (vp_in_nI (show i + 2 < L by omega) (by omega)) dL_law_435 ?_
    refine n_top (y := xs (i + 2)) (by rw [nI_clamp (by omega)]) ?_
    refine lv_if_eq (tgt := 443) hx hb dL_law_436 (by decide) (fun _ => ?_) (fun h9 => absurd h0 h9)
    refine n_iconst hx hb 0 dL_law_443 (by decide) ?_
    refine n_top (y := bI false) rfl ?_
    have hP8 := va_Ptl hP
    refine k_rwV (As := [.int (xs (i + 1)), .int (bI false)]) (rest := []) (wc := lwW T ao f' a c' q8 Z g) (wr := []) (w1 := lwW T ao f' a c' q8 Z' g) (mc := 0) (ms := 0) cx (RWi.fr (hX1 H.size g) (Fr.head (wO T ao f' ++ oC T a c') (oX8 T q8 Z g) (oX8 T q8 Z' g))) (cwV 2 hts hL_X8_lookout rfl rfl rfl (by decide +kernel) ⟨Nat.le_of_ble_eq_true rfl, Nat.le_of_ble_eq_true rfl⟩) (kN_full hP hD hS hA hE hK) (va_recv hK hP8 (ci := 8) (q0 := 0) rfl rfl) rfl hl.1 rfl (Nat.le_of_ble_eq_true rfl) dL_law_444 ⟨by show cells + 1 + 0 ≤ 601024; omega, by show slots + 6 + 0 ≤ 7293033; omega⟩ (fun H locs hP hD hS hz => ?_)
    have hP : va_P G vwCl (lwW T ao f' a c' q8 Z' g) H := hP
    have hD : va_D (fun q : Nat => s.heap.size ≤ q) (lwW T ao f' a c' q8 Z' g) := hD
    refine lv_istore (lv' := [(6, .int bb), (5, .int v), (0, .ref b), (1, .ref (a.1 0)), (2, .ref (q8 0)), (3, .ref ao), (4, .int (nI i))]) hx hb dL_law_447 hl (by decide) rfl (fun ls hl => ?_)
    refine lv_aload_n hx hb dL_law_449 rfl (lv_at hl 4 rfl) ?_
    have hP8 := va_Ptl hP
    refine k_roV (As := []) (rest := []) (wc := oX8 T q8 Z' g) (d := 0) (v := Z' 0 0) cx (c_X8_thrown l G T (fun q : Nat => s.heap.size ≤ q) q8 Z' g) (cwV 0 hts hL_X8_thrown rfl rfl rfl (by decide +kernel) ⟨Nat.le_of_ble_eq_true rfl, Nat.le_of_ble_eq_true rfl⟩) hP8 hK (hE.kept hS.2.1) (va_recv hK hP8 (ci := 8) (q0 := 0) rfl rfl) rfl hl.1 rfl (Nat.le_of_ble_eq_true rfl) dL_law_450 ⟨by show cells + 1 + 0 ≤ 601024; omega, by show slots + 6 + 0 ≤ 7293033; omega⟩ ?_
    refine lv_iload hx hb dL_law_453 (lv_at hl 1 rfl) ?_
    refine lv_icmp_eq (tgt := 460) hx hb dL_law_455 (by decide) (fun _ => ?_) (fun h9 => absurd hth h9)
    refine lv_iload hx hb dL_law_460 (lv_at hl 1 rfl) ?_
    refine lv_if_ne (tgt := 477) hx hb dL_law_462 (by decide) (fun _ => ?_) (fun h9 => ?_)
    · refine lv_goto (tgt := 1680) hx hb dL_law_477 (by decide) ?_
      exact kk _ _ _ ⟨f', c', Z', g, hP, hD, hS, hJ1⟩ (lv_sub hl [2, 3, 4, 5, 6] rfl)
    have e9 : f' (nI 0).toNatClampNeg = bb.toInt64 := by rw [nI_clamp (by decide)]; exact han (h9.trans nI_0.symm)
    refine lv_aload_n hx hb dL_law_465 rfl (lv_at hl 5 rfl) ?_
    refine n_iconst hx hb 0 dL_law_466 (by decide) ?_
    refine va_lald hx hb hK hP 0 3 rfl rfl (vp_in_nI (show 0 < 1 by decide) (by decide)) dL_law_467 ?_
    refine lv_iload hx hb dL_law_468 (lv_at hl 0 rfl) ?_
    refine lv_i2l (v := bb.toInt64) hx hb dL_law_470 rfl ?_
    refine W.lcmp hx hb dL_law_471 ?_
    refine lv_if_eq (tgt := 477) hx hb dL_law_472 (by decide) (fun _ => ?_) (fun h9 => absurd (by rw [e9]; exact lg_self _) h9)
    refine lv_goto (tgt := 1680) hx hb dL_law_477 (by decide) ?_
    exact kk _ _ _ ⟨f', c', Z', g, hP, hD, hS, hJ1⟩ (lv_sub hl [2, 3, 4, 5, 6] rfl)
  · obtain ⟨d, v, bb, f', c', Z', hd, hL1, hX1, hth, han, hJ1⟩ := st_lookout l hst G T a ao q8 hB f c9 Z (xs (i + 1)) true hJ
    refine lv_aload_n hx hb dL_law_396 rfl (lv_at hl 1 rfl) ?_
    refine lv_aload_n hx hb dL_law_397 rfl (lv_at hl 0 rfl) ?_
    refine lv_iload hx hb dL_law_398 (lv_at hl 4 rfl) ?_
    refine n_iconst hx hb 1 dL_law_400 (by decide) ?_
    refine n_iadd hx hb dL_law_401 ?_
    refine va_sld hx hb hX hbl hbA hS (vp_in_nI (show i + 1 < L by omega) (by omega)) dL_law_402 ?_
    refine n_top (y := xs (i + 1)) (by rw [nI_clamp (by omega)]) ?_
    refine lv_aload_n hx hb dL_law_403 rfl (lv_at hl 0 rfl) ?_
    refine lv_iload hx hb dL_law_404 (lv_at hl 4 rfl) ?_
    refine n_iconst hx hb 2 dL_law_406 (by decide) ?_
    refine n_iadd hx hb dL_law_407 ?_
    refine va_sld hx hb hX hbl hbA hS (vp_in_nI (show i + 2 < L by omega) (by omega)) dL_law_408 ?_
    refine n_top (y := xs (i + 2)) (by rw [nI_clamp (by omega)]) ?_
    refine lv_if_eq (tgt := 416) hx hb dL_law_409 (by decide) (fun h9 => absurd h9 h0) (fun _ => ?_)
    refine n_iconst hx hb 1 dL_law_412 (by decide) ?_
    refine lv_goto (tgt := 417) hx hb dL_law_413 (by decide) ?_
    refine n_top (y := bI true) rfl ?_
    refine lv_aload_n hx hb dL_law_417 rfl (lv_at hl 3 rfl) ?_
    refine k_lxS (As := [.ref (a.1 0), .int (xs (i + 1)), .int (bI true), .ref ao]) (rest := []) (wc := lwW T ao f a c9 q8 Z g) (wr := []) (w1 := lwW T ao f' a c' q8 Z g) cx (RWx.fr (hL1 H.size) (Fr.tail (wO T ao f ++ oC T a c9) (wO T ao f' ++ oC T a c') (oX8 T q8 Z g))) (vx_cwSW 4 hts hL_L_lookout rfl rfl rfl (by decide +kernel) ⟨by show d + 1 ≤ 17; omega, by show 8 + (_ + 11) + 40 * d ≤ 664; omega⟩) (kN_full hP hD hS hA hE hK) hgC hgN rfl hl.1 rfl (Nat.le_of_ble_eq_true rfl) dL_law_418 hcs (fun H locs hP hD hS hz => ?_)
    have hP : va_P G vwCl (lwW T ao f' a c' q8 Z g) H := hP
    have hD : va_D (fun q : Nat => s.heap.size ≤ q) (lwW T ao f' a c' q8 Z g) := hD
    refine lv_istore (lv' := [(5, .int v), (0, .ref b), (1, .ref (a.1 0)), (2, .ref (q8 0)), (3, .ref ao), (4, .int (nI i))]) hx hb dL_law_421 hl (by decide) rfl (fun ls hl => ?_)
    refine lv_aload_n hx hb dL_law_423 rfl (lv_at hl 3 rfl) ?_
    refine lv_aload_n hx hb dL_law_424 rfl (lv_at hl 1 rfl) ?_
    refine lv_iload hx hb dL_law_425 (lv_at hl 5 rfl) ?_
    refine n_iconst hx hb 1 dL_law_427 (by decide) ?_
    refine n_iadd hx hb dL_law_428 ?_
    refine va_sld hx hb hX hbl hbA hS (vp_in_nI (show i + 1 < L by omega) (by omega)) dL_law_429 ?_
    refine n_top (y := xs (i + 1)) (by rw [nI_clamp (by omega)]) ?_
    refine lv_aload_n hx hb dL_law_430 rfl (lv_at hl 1 rfl) ?_
    refine lv_iload hx hb dL_law_431 (lv_at hl 5 rfl) ?_
    refine n_iconst hx hb 2 dL_law_433 (by decide) ?_
    refine n_iadd hx hb dL_law_434 ?_
    refine va_sld hx hb hX hbl hbA hS (vp_in_nI (show i + 2 < L by omega) (by omega)) dL_law_435 ?_
    refine n_top (y := xs (i + 2)) (by rw [nI_clamp (by omega)]) ?_
    refine lv_if_eq (tgt := 443) hx hb dL_law_436 (by decide) (fun h9 => absurd h9 h0) (fun _ => ?_)
    refine n_iconst hx hb 1 dL_law_439 (by decide) ?_
    refine lv_goto (tgt := 444) hx hb dL_law_440 (by decide) ?_
    refine n_top (y := bI true) rfl ?_
    have hP8 := va_Ptl hP
    refine k_rwV (As := [.int (xs (i + 1)), .int (bI true)]) (rest := []) (wc := lwW T ao f' a c' q8 Z g) (wr := []) (w1 := lwW T ao f' a c' q8 Z' g) (mc := 0) (ms := 0) cx (RWi.fr (hX1 H.size g) (Fr.head (wO T ao f' ++ oC T a c') (oX8 T q8 Z g) (oX8 T q8 Z' g))) (cwV 2 hts hL_X8_lookout rfl rfl rfl (by decide +kernel) ⟨Nat.le_of_ble_eq_true rfl, Nat.le_of_ble_eq_true rfl⟩) (kN_full hP hD hS hA hE hK) (va_recv hK hP8 (ci := 8) (q0 := 0) rfl rfl) rfl hl.1 rfl (Nat.le_of_ble_eq_true rfl) dL_law_444 ⟨by show cells + 1 + 0 ≤ 601024; omega, by show slots + 6 + 0 ≤ 7293033; omega⟩ (fun H locs hP hD hS hz => ?_)
    have hP : va_P G vwCl (lwW T ao f' a c' q8 Z' g) H := hP
    have hD : va_D (fun q : Nat => s.heap.size ≤ q) (lwW T ao f' a c' q8 Z' g) := hD
    refine lv_istore (lv' := [(6, .int bb), (5, .int v), (0, .ref b), (1, .ref (a.1 0)), (2, .ref (q8 0)), (3, .ref ao), (4, .int (nI i))]) hx hb dL_law_447 hl (by decide) rfl (fun ls hl => ?_)
    refine lv_aload_n hx hb dL_law_449 rfl (lv_at hl 4 rfl) ?_
    have hP8 := va_Ptl hP
    refine k_roV (As := []) (rest := []) (wc := oX8 T q8 Z' g) (d := 0) (v := Z' 0 0) cx (c_X8_thrown l G T (fun q : Nat => s.heap.size ≤ q) q8 Z' g) (cwV 0 hts hL_X8_thrown rfl rfl rfl (by decide +kernel) ⟨Nat.le_of_ble_eq_true rfl, Nat.le_of_ble_eq_true rfl⟩) hP8 hK (hE.kept hS.2.1) (va_recv hK hP8 (ci := 8) (q0 := 0) rfl rfl) rfl hl.1 rfl (Nat.le_of_ble_eq_true rfl) dL_law_450 ⟨by show cells + 1 + 0 ≤ 601024; omega, by show slots + 6 + 0 ≤ 7293033; omega⟩ ?_
    refine lv_iload hx hb dL_law_453 (lv_at hl 1 rfl) ?_
    refine lv_icmp_eq (tgt := 460) hx hb dL_law_455 (by decide) (fun _ => ?_) (fun h9 => absurd hth h9)
    refine lv_iload hx hb dL_law_460 (lv_at hl 1 rfl) ?_
    refine lv_if_ne (tgt := 477) hx hb dL_law_462 (by decide) (fun _ => ?_) (fun h9 => ?_)
    · refine lv_goto (tgt := 1680) hx hb dL_law_477 (by decide) ?_
      exact kk _ _ _ ⟨f', c', Z', g, hP, hD, hS, hJ1⟩ (lv_sub hl [2, 3, 4, 5, 6] rfl)
    have e9 : f' (nI 0).toNatClampNeg = bb.toInt64 := by rw [nI_clamp (by decide)]; exact han (h9.trans nI_0.symm)
    refine lv_aload_n hx hb dL_law_465 rfl (lv_at hl 5 rfl) ?_
    refine n_iconst hx hb 0 dL_law_466 (by decide) ?_
    refine va_lald hx hb hK hP 0 3 rfl rfl (vp_in_nI (show 0 < 1 by decide) (by decide)) dL_law_467 ?_
    refine lv_iload hx hb dL_law_468 (lv_at hl 0 rfl) ?_
    refine lv_i2l (v := bb.toInt64) hx hb dL_law_470 rfl ?_
    refine W.lcmp hx hb dL_law_471 ?_
    refine lv_if_eq (tgt := 477) hx hb dL_law_472 (by decide) (fun _ => ?_) (fun h9 => absurd (by rw [e9]; exact lg_self _) h9)
    refine lv_goto (tgt := 1680) hx hb dL_law_477 (by decide) ?_
    exact kk _ _ _ ⟨f', c', Z', g, hP, hD, hS, hJ1⟩ (lv_sub hl [2, 3, 4, 5, 6] rfl)
end LC
