/-! the law: 83.law2 (printed by wip/p33/slaw.py) -/
section LAW
variable {p : Program} {l : Launch} {e : Env} {s : State} {m : MethodId} {below : List Frame} {meth : Method} {c : Code} {b L : Nat} {xs : Nat → Int32} {G : va_G} {T : Nat → ClassId} {A : Nat → Prop} {a9 : CA} {aq at9 ar ab : Nat} {Q : State → Prop}
set_option maxHeartbeats 16000000 in
set_option maxRecDepth 100000 in
/-- what is called with, and what is typed -/
theorem law_2 (E : lwE l p s m c b L xs G T A) {i B cells slots : Nat} (hi : i < 50) (hB : 12 * (B + 2) < 2 ^ 31) (hcs : cells + 2 ≤ 600130 ∧ slots + 12 ≤ 7301080) (c9 : CC) {fq ft fr fb : Nat → Int32} {tn : Nat → Nat} (hJ : JX B c9 fq ft fr fb tn) (x9 y9 : Int32) {kd : Nat} (hk : kd < 9) {H : Heap} {locs : List Loc} {ls : Array Slot} (hP : va_P G vwCl (lwW T aq at9 ar ab fq ft fr fb a9 c9) H) (hD : va_D A (lwW T aq at9 ar ab fq ft fr fb a9 c9)) (hS : va_S A s.heap H locs) (hl : lv_has ls 16 [(9, .int (nI kd)), (8, .int y9), (7, .int x9), (0, .ref b), (1, .ref (a9.1 0)), (2, .ref aq), (3, .ref at9), (4, .ref ar), (5, .ref ab), (6, .int (nI i))]) (kk : ∀ (H : Heap) (locs : List Loc) (ls : Array Slot) (c9 : CC) (tu : Nat), va_P G vwCl (lwW T aq at9 ar ab fq ft fr fb a9 c9) H → va_D A (lwW T aq at9 ar ab fq ft fr fb a9 c9) → va_S A s.heap H locs → JX B c9 fq ft fr fb tn → TyO c9.2.2.2.2.2.1 kd tu → tu < 167772160 → lv_has ls 16 [(12, .int (nI tu)), (11, .int (nI (laE kd (laA kd y9) y9))), (10, .int (nI (laA kd y9))), (9, .int (nI kd)), (8, .int y9), (7, .int x9), (0, .ref b), (1, .ref (a9.1 0)), (2, .ref aq), (3, .ref at9), (4, .ref ar), (5, .ref ab), (6, .int (nI i))] → W p l e room_1 s m #[Value.ref b] below meth c H locs cells slots Q (F0 m 420 ls [])) : W p l e room_1 s m #[Value.ref b] below meth c H locs cells slots Q (F0 m 200 ls []) := by
  obtain ⟨hx, hb, hml, hown, hts, hX, hbl, hbA, hA, hst, hK, hE, hgC, hgN⟩ := E
  have cx : CallFix p m c cL_law 16 s #[Value.ref b] wsLw RL := ⟨hx, hb, hml, hown, hts⟩
  have hl0 := loN_lt y9 (n := 4) (by decide)
  have hl1 := loN_lt y9 (n := 7) (by decide)
  have hl2 := loN_lt y9 (n := 3) (by decide)
  have hl3 := loN_lt y9 (n := 2) (by decide)
  have hl4 := loN_lt y9 (n := 6) (by decide)
  have hl5 := loN_lt (iShr y9 (nI 3)) (n := 3) (by decide)
  have hl6 := loN_lt (iShr y9 (nI 3)) (n := 9) (by decide)
  have hl7 := loN_lt (iShr y9 (nI 3)) (n := 20) (by decide)
  have hl8 := loN_lt (iShr y9 (nI 3)) (n := 4) (by decide)
  have hl9 := loN_lt (iShr y9 (nI 20)) (n := 5) (by decide)
  have hla9 : laA kd y9 < 20 := by
    unfold laA
    repeat (first | omega | split)
  refine lv_iload hx hb dL_law_200 (lv_at hl 0 rfl) ?_
  have J_1 : ∀ y7 : Int32, y7 = (nI (laA kd y9)) → W p l e room_1 s m #[Value.ref b] below meth c H locs cells slots Q (F0 m 299 ls (.int y7 :: [])) := by
    intro y7 hy7
    subst hy7
    refine lv_istore (lv' := [(10, .int (nI (laA kd y9))), (9, .int (nI kd)), (8, .int y9), (7, .int x9), (0, .ref b), (1, .ref (a9.1 0)), (2, .ref aq), (3, .ref at9), (4, .ref ar), (5, .ref ab), (6, .int (nI i))]) hx hb dL_law_299 hl (by decide) rfl (fun ls hl => ?_)
    refine lv_iload hx hb dL_law_301 (lv_at hl 1 rfl) ?_
    refine lv_bipush (v := nI 7) hx hb dL_law_303 (by decide) ?_
    have J_2 : ∀ y7 : Int32, y7 = (nI (laE kd (laA kd y9) y9)) → W p l e room_1 s m #[Value.ref b] below meth c H locs cells slots Q (F0 m 399 ls (.int y7 :: [])) := by
      intro y7 hy7
      subst hy7
      refine lv_istore (lv' := [(11, .int (nI (laE kd (laA kd y9) y9))), (10, .int (nI (laA kd y9))), (9, .int (nI kd)), (8, .int y9), (7, .int x9), (0, .ref b), (1, .ref (a9.1 0)), (2, .ref aq), (3, .ref at9), (4, .ref ar), (5, .ref ab), (6, .int (nI i))]) hx hb dL_law_399 hl (by decide) rfl (fun ls hl => ?_)
      refine lv_iload hx hb dL_law_401 (lv_at hl 2 rfl) ?_
      refine n_if_ne (a := kd) (tgt := 417) hx hb (by omega) dL_law_403 (by decide) (fun c_3 => ?_) (fun c_4 => ?_)
      · skip
        refine n_iconst hx hb 0 dL_law_417 (by decide) ?_
        refine lv_istore (lv' := [(12, .int (nI 0)), (11, .int (nI (laE kd (laA kd y9) y9))), (10, .int (nI (laA kd y9))), (9, .int (nI kd)), (8, .int y9), (7, .int x9), (0, .ref b), (1, .ref (a9.1 0)), (2, .ref aq), (3, .ref at9), (4, .ref ar), (5, .ref ab), (6, .int (nI i))]) hx hb dL_law_418 hl (by decide) rfl (fun ls hl => ?_)
        exact kk _ _ _ c9 0 hP hD hS hJ (fun h9 => absurd h9 (by assumption)) (by decide) hl
      · skip
        refine lv_aload_n hx hb dL_law_406 rfl (lv_at hl 6 rfl) ?_
        refine lv_iload hx hb dL_law_407 (lv_at hl 3 rfl) ?_
        refine n_iconst hx hb 4 dL_law_409 (by decide) ?_
        refine x_ishr hx hb dL_law_410 ?_
        obtain ⟨c1, z, hR9, hJ1, hZ, hZ2⟩ := st_types l G T a9 c9 hJ (iShr y9 (nI 4))
        refine k_rwS (As := [.ref (a9.1 0), .int (iShr y9 (nI 4))]) (rest := []) (wc := (lwW T aq at9 ar ab fq ft fr fb a9 c9)) (wr := []) (w1 := (lwW T aq at9 ar ab fq ft fr fb a9 c1)) (d := 5) (mc := 0) (ms := 0) (v := nI z.2.2) cx (RWi.fr (hR9 H.size) (Fr.head (lwR T aq at9 ar ab fq ft fr fb) (oC T a9 c9) (oC T a9 c1))) (va_cwS 2 hts hL_L_types rfl rfl rfl (by decide +kernel) ⟨Nat.le_of_ble_eq_true rfl, Nat.le_of_ble_eq_true rfl⟩) (kN_full hP hD hS hA hE hK) rfl hl.1 rfl (Nat.le_of_ble_eq_true rfl) dL_law_411 ⟨by show _ ≤ 600130; omega, by show _ ≤ 7301080; omega⟩ (fun H locs hP hD hS hz => ?_)
        have hP : va_P G vwCl (lwW T aq at9 ar ab fq ft fr fb a9 c1) H := hP
        have hD : va_D A (lwW T aq at9 ar ab fq ft fr fb a9 c1) := hD
        refine lv_goto (tgt := 418) hx hb dL_law_414 (by decide) ?_
        refine lv_istore (lv' := [(12, .int (nI z.2.2)), (11, .int (nI (laE kd (laA kd y9) y9))), (10, .int (nI (laA kd y9))), (9, .int (nI kd)), (8, .int y9), (7, .int x9), (0, .ref b), (1, .ref (a9.1 0)), (2, .ref aq), (3, .ref at9), (4, .ref ar), (5, .ref ab), (6, .int (nI i))]) hx hb dL_law_418 hl (by decide) rfl (fun ls hl => ?_)
        exact kk _ _ _ c1 z.2.2 hP hD hS hJ1 (hZ kd) hZ2 hl
    refine n_icmp_ne (a := kd) (b := 7) (tgt := 338) hx hb (by omega) (by decide) dL_law_305 (by decide) (fun c_5 => ?_) (fun c_6 => ?_)
    · skip
      refine lv_iload hx hb dL_law_338 (lv_at hl 1 rfl) ?_
      refine n_iconst hx hb 1 dL_law_340 (by decide) ?_
      refine n_icmp_eq (a := kd) (b := 1) (tgt := 351) hx hb (by omega) (by decide) dL_law_341 (by decide) (fun c_7 => ?_) (fun c_8 => ?_)
      · skip
        refine lv_iload hx hb dL_law_351 (lv_at hl 2 rfl) ?_
        refine lv_bipush (v := nI 20) hx hb dL_law_353 (by decide) ?_
        refine x_ishr hx hb dL_law_355 ?_
        refine n_iconst hx hb 5 dL_law_356 (by decide) ?_
        refine k_roS (As := [.int (iShr y9 (nI 20)), .int (nI 5)]) (rest := []) (wc := []) (d := 0) (v := nI (loN (iShr y9 (nI 20)) 5)) cx (c_L_low l G T A (iShr y9 (nI 20)) 5 (by omega) (by omega)) (va_cwS 2 hts hL_L_low rfl rfl rfl (by decide +kernel) ⟨Nat.le_of_ble_eq_true rfl, Nat.le_of_ble_eq_true rfl⟩) (hP.sub (ws' := []) [] rfl) hK (hE.kept hS.2.1) rfl hl.1 rfl (Nat.le_of_ble_eq_true rfl) dL_law_357 ⟨by show _ ≤ 600130; omega, by show _ ≤ 7301080; omega⟩ ?_
        refine n_if_ne (a := loN (iShr y9 (nI 20)) 5) (tgt := 375) hx hb (by omega) dL_law_360 (by decide) (fun c_9 => ?_) (fun c_10 => ?_)
        · skip
          refine lv_iload hx hb dL_law_375 (lv_at hl 2 rfl) ?_
          refine n_iconst hx hb 3 dL_law_377 (by decide) ?_
          refine x_ishr hx hb dL_law_378 ?_
          refine n_iconst hx hb 4 dL_law_379 (by decide) ?_
          refine k_roS (As := [.int (iShr y9 (nI 3)), .int (nI 4)]) (rest := []) (wc := []) (d := 0) (v := nI (loN (iShr y9 (nI 3)) 4)) cx (c_L_low l G T A (iShr y9 (nI 3)) 4 (by omega) (by omega)) (va_cwS 2 hts hL_L_low rfl rfl rfl (by decide +kernel) ⟨Nat.le_of_ble_eq_true rfl, Nat.le_of_ble_eq_true rfl⟩) (hP.sub (ws' := []) [] rfl) hK (hE.kept hS.2.1) rfl hl.1 rfl (Nat.le_of_ble_eq_true rfl) dL_law_380 ⟨by show _ ≤ 600130; omega, by show _ ≤ 7301080; omega⟩ ?_
          refine n_iconst hx hb 5 dL_law_383 (by decide) ?_
          refine n_imul (a := loN (iShr y9 (nI 3)) 4) (b := 5) hx hb dL_law_384 ?_
          refine n_iconst hx hb 2 dL_law_385 (by decide) ?_
          refine n_iadd (a := (loN (iShr y9 (nI 3)) 4) * 5) (b := 2) hx hb dL_law_386 ?_
          refine lv_goto (tgt := 399) hx hb dL_law_387 (by decide) ?_
          exact J_2 _ (by unfold laE; repeat (first | rw [if_pos (by omega)] | rw [if_neg (by omega)]))
        · skip
          refine lv_iload hx hb dL_law_363 (lv_at hl 2 rfl) ?_
          refine n_iconst hx hb 3 dL_law_365 (by decide) ?_
          refine x_ishr hx hb dL_law_366 ?_
          refine lv_bipush (v := nI 20) hx hb dL_law_367 (by decide) ?_
          refine k_roS (As := [.int (iShr y9 (nI 3)), .int (nI 20)]) (rest := []) (wc := []) (d := 0) (v := nI (loN (iShr y9 (nI 3)) 20)) cx (c_L_low l G T A (iShr y9 (nI 3)) 20 (by omega) (by omega)) (va_cwS 2 hts hL_L_low rfl rfl rfl (by decide +kernel) ⟨Nat.le_of_ble_eq_true rfl, Nat.le_of_ble_eq_true rfl⟩) (hP.sub (ws' := []) [] rfl) hK (hE.kept hS.2.1) rfl hl.1 rfl (Nat.le_of_ble_eq_true rfl) dL_law_369 ⟨by show _ ≤ 600130; omega, by show _ ≤ 7301080; omega⟩ ?_
          refine lv_goto (tgt := 399) hx hb dL_law_372 (by decide) ?_
          exact J_2 _ (by unfold laE; repeat (first | rw [if_pos (by omega)] | rw [if_neg (by omega)]))
      · skip
        refine lv_iload hx hb dL_law_344 (lv_at hl 1 rfl) ?_
        refine lv_bipush (v := nI 6) hx hb dL_law_346 (by decide) ?_
        refine n_icmp_ne (a := kd) (b := 6) (tgt := 390) hx hb (by omega) (by decide) dL_law_348 (by decide) (fun c_11 => ?_) (fun c_12 => ?_)
        · skip
          refine lv_iload hx hb dL_law_390 (lv_at hl 2 rfl) ?_
          refine n_iconst hx hb 3 dL_law_392 (by decide) ?_
          refine x_ishr hx hb dL_law_393 ?_
          refine lv_bipush (v := nI 20) hx hb dL_law_394 (by decide) ?_
          refine k_roS (As := [.int (iShr y9 (nI 3)), .int (nI 20)]) (rest := []) (wc := []) (d := 0) (v := nI (loN (iShr y9 (nI 3)) 20)) cx (c_L_low l G T A (iShr y9 (nI 3)) 20 (by omega) (by omega)) (va_cwS 2 hts hL_L_low rfl rfl rfl (by decide +kernel) ⟨Nat.le_of_ble_eq_true rfl, Nat.le_of_ble_eq_true rfl⟩) (hP.sub (ws' := []) [] rfl) hK (hE.kept hS.2.1) rfl hl.1 rfl (Nat.le_of_ble_eq_true rfl) dL_law_396 ⟨by show _ ≤ 600130; omega, by show _ ≤ 7301080; omega⟩ ?_
          exact J_2 _ (by unfold laE; repeat (first | rw [if_pos (by omega)] | rw [if_neg (by omega)]))
        · skip
          refine lv_iload hx hb dL_law_351 (lv_at hl 2 rfl) ?_
          refine lv_bipush (v := nI 20) hx hb dL_law_353 (by decide) ?_
          refine x_ishr hx hb dL_law_355 ?_
          refine n_iconst hx hb 5 dL_law_356 (by decide) ?_
          refine k_roS (As := [.int (iShr y9 (nI 20)), .int (nI 5)]) (rest := []) (wc := []) (d := 0) (v := nI (loN (iShr y9 (nI 20)) 5)) cx (c_L_low l G T A (iShr y9 (nI 20)) 5 (by omega) (by omega)) (va_cwS 2 hts hL_L_low rfl rfl rfl (by decide +kernel) ⟨Nat.le_of_ble_eq_true rfl, Nat.le_of_ble_eq_true rfl⟩) (hP.sub (ws' := []) [] rfl) hK (hE.kept hS.2.1) rfl hl.1 rfl (Nat.le_of_ble_eq_true rfl) dL_law_357 ⟨by show _ ≤ 600130; omega, by show _ ≤ 7301080; omega⟩ ?_
          refine n_if_ne (a := loN (iShr y9 (nI 20)) 5) (tgt := 375) hx hb (by omega) dL_law_360 (by decide) (fun c_13 => ?_) (fun c_14 => ?_)
          · skip
            refine lv_iload hx hb dL_law_375 (lv_at hl 2 rfl) ?_
            refine n_iconst hx hb 3 dL_law_377 (by decide) ?_
            refine x_ishr hx hb dL_law_378 ?_
            refine n_iconst hx hb 4 dL_law_379 (by decide) ?_
            refine k_roS (As := [.int (iShr y9 (nI 3)), .int (nI 4)]) (rest := []) (wc := []) (d := 0) (v := nI (loN (iShr y9 (nI 3)) 4)) cx (c_L_low l G T A (iShr y9 (nI 3)) 4 (by omega) (by omega)) (va_cwS 2 hts hL_L_low rfl rfl rfl (by decide +kernel) ⟨Nat.le_of_ble_eq_true rfl, Nat.le_of_ble_eq_true rfl⟩) (hP.sub (ws' := []) [] rfl) hK (hE.kept hS.2.1) rfl hl.1 rfl (Nat.le_of_ble_eq_true rfl) dL_law_380 ⟨by show _ ≤ 600130; omega, by show _ ≤ 7301080; omega⟩ ?_
            refine n_iconst hx hb 5 dL_law_383 (by decide) ?_
            refine n_imul (a := loN (iShr y9 (nI 3)) 4) (b := 5) hx hb dL_law_384 ?_
            refine n_iconst hx hb 2 dL_law_385 (by decide) ?_
            refine n_iadd (a := (loN (iShr y9 (nI 3)) 4) * 5) (b := 2) hx hb dL_law_386 ?_
            refine lv_goto (tgt := 399) hx hb dL_law_387 (by decide) ?_
            exact J_2 _ (by unfold laE; repeat (first | rw [if_pos (by omega)] | rw [if_neg (by omega)]))
          · skip
            refine lv_iload hx hb dL_law_363 (lv_at hl 2 rfl) ?_
            refine n_iconst hx hb 3 dL_law_365 (by decide) ?_
            refine x_ishr hx hb dL_law_366 ?_
            refine lv_bipush (v := nI 20) hx hb dL_law_367 (by decide) ?_
            refine k_roS (As := [.int (iShr y9 (nI 3)), .int (nI 20)]) (rest := []) (wc := []) (d := 0) (v := nI (loN (iShr y9 (nI 3)) 20)) cx (c_L_low l G T A (iShr y9 (nI 3)) 20 (by omega) (by omega)) (va_cwS 2 hts hL_L_low rfl rfl rfl (by decide +kernel) ⟨Nat.le_of_ble_eq_true rfl, Nat.le_of_ble_eq_true rfl⟩) (hP.sub (ws' := []) [] rfl) hK (hE.kept hS.2.1) rfl hl.1 rfl (Nat.le_of_ble_eq_true rfl) dL_law_369 ⟨by show _ ≤ 600130; omega, by show _ ≤ 7301080; omega⟩ ?_
            refine lv_goto (tgt := 399) hx hb dL_law_372 (by decide) ?_
            exact J_2 _ (by unfold laE; repeat (first | rw [if_pos (by omega)] | rw [if_neg (by omega)]))
    · skip
      refine lv_iload hx hb dL_law_308 (lv_at hl 0 rfl) ?_
      refine n_if_ne (a := laA kd y9) (tgt := 324) hx hb (by omega) dL_law_310 (by decide) (fun c_15 => ?_) (fun c_16 => ?_)
      · skip
        refine n_iconst hx hb 1 dL_law_324 (by decide) ?_
        refine lv_iload hx hb dL_law_325 (lv_at hl 2 rfl) ?_
        refine n_iconst hx hb 3 dL_law_327 (by decide) ?_
        refine x_ishr hx hb dL_law_328 ?_
        refine lv_bipush (v := nI 9) hx hb dL_law_329 (by decide) ?_
        refine k_roS (As := [.int (iShr y9 (nI 3)), .int (nI 9)]) (rest := [.int (nI 1)]) (wc := []) (d := 0) (v := nI (loN (iShr y9 (nI 3)) 9)) cx (c_L_low l G T A (iShr y9 (nI 3)) 9 (by omega) (by omega)) (va_cwS 2 hts hL_L_low rfl rfl rfl (by decide +kernel) ⟨Nat.le_of_ble_eq_true rfl, Nat.le_of_ble_eq_true rfl⟩) (hP.sub (ws' := []) [] rfl) hK (hE.kept hS.2.1) rfl hl.1 rfl (Nat.le_of_ble_eq_true rfl) dL_law_331 ⟨by show _ ≤ 600130; omega, by show _ ≤ 7301080; omega⟩ ?_
        refine n_iadd (a := 1) (b := loN (iShr y9 (nI 3)) 9) hx hb dL_law_334 ?_
        refine lv_goto (tgt := 399) hx hb dL_law_335 (by decide) ?_
        exact J_2 _ (by unfold laE; repeat (first | rw [if_pos (by omega)] | rw [if_neg (by omega)]))
      · skip
        refine lv_iload hx hb dL_law_313 (lv_at hl 2 rfl) ?_
        refine n_iconst hx hb 3 dL_law_315 (by decide) ?_
        refine x_ishr hx hb dL_law_316 ?_
        refine n_iconst hx hb 3 dL_law_317 (by decide) ?_
        refine k_roS (As := [.int (iShr y9 (nI 3)), .int (nI 3)]) (rest := []) (wc := []) (d := 0) (v := nI (loN (iShr y9 (nI 3)) 3)) cx (c_L_low l G T A (iShr y9 (nI 3)) 3 (by omega) (by omega)) (va_cwS 2 hts hL_L_low rfl rfl rfl (by decide +kernel) ⟨Nat.le_of_ble_eq_true rfl, Nat.le_of_ble_eq_true rfl⟩) (hP.sub (ws' := []) [] rfl) hK (hE.kept hS.2.1) rfl hl.1 rfl (Nat.le_of_ble_eq_true rfl) dL_law_318 ⟨by show _ ≤ 600130; omega, by show _ ≤ 7301080; omega⟩ ?_
        refine lv_goto (tgt := 399) hx hb dL_law_321 (by decide) ?_
        exact J_2 _ (by unfold laE; repeat (first | rw [if_pos (by omega)] | rw [if_neg (by omega)]))
  refine n_if_ne (a := kd) (tgt := 218) hx hb (by omega) dL_law_202 (by decide) (fun c_17 => ?_) (fun c_18 => ?_)
  · skip
    refine lv_iload hx hb dL_law_218 (lv_at hl 0 rfl) ?_
    refine lv_bipush (v := nI 8) hx hb dL_law_220 (by decide) ?_
    refine n_icmp_ne (a := kd) (b := 8) (tgt := 238) hx hb (by omega) (by decide) dL_law_222 (by decide) (fun c_19 => ?_) (fun c_20 => ?_)
    · skip
      refine lv_iload hx hb dL_law_238 (lv_at hl 0 rfl) ?_
      refine n_iconst hx hb 3 dL_law_240 (by decide) ?_
      refine n_icmp_ne (a := kd) (b := 3) (tgt := 254) hx hb (by omega) (by decide) dL_law_241 (by decide) (fun c_21 => ?_) (fun c_22 => ?_)
      · skip
        refine lv_iload hx hb dL_law_254 (lv_at hl 0 rfl) ?_
        refine n_iconst hx hb 5 dL_law_256 (by decide) ?_
        refine n_icmp_eq (a := kd) (b := 5) (tgt := 267) hx hb (by omega) (by decide) dL_law_257 (by decide) (fun c_23 => ?_) (fun c_24 => ?_)
        · skip
          refine lv_iload hx hb dL_law_267 (lv_at hl 1 rfl) ?_
          refine n_iconst hx hb 3 dL_law_269 (by decide) ?_
          refine k_roS (As := [.int y9, .int (nI 3)]) (rest := []) (wc := []) (d := 0) (v := nI (loN y9 3)) cx (c_L_low l G T A y9 3 (by omega) (by omega)) (va_cwS 2 hts hL_L_low rfl rfl rfl (by decide +kernel) ⟨Nat.le_of_ble_eq_true rfl, Nat.le_of_ble_eq_true rfl⟩) (hP.sub (ws' := []) [] rfl) hK (hE.kept hS.2.1) rfl hl.1 rfl (Nat.le_of_ble_eq_true rfl) dL_law_270 ⟨by show _ ≤ 600130; omega, by show _ ≤ 7301080; omega⟩ ?_
          refine lv_goto (tgt := 299) hx hb dL_law_273 (by decide) ?_
          exact J_1 _ (by unfold laA; repeat (first | rw [if_pos (by omega)] | rw [if_neg (by omega)]))
        · skip
          refine lv_iload hx hb dL_law_260 (lv_at hl 0 rfl) ?_
          refine lv_bipush (v := nI 6) hx hb dL_law_262 (by decide) ?_
          refine n_icmp_ne (a := kd) (b := 6) (tgt := 276) hx hb (by omega) (by decide) dL_law_264 (by decide) (fun c_25 => ?_) (fun c_26 => ?_)
          · skip
            refine lv_iload hx hb dL_law_276 (lv_at hl 0 rfl) ?_
            refine lv_bipush (v := nI 7) hx hb dL_law_278 (by decide) ?_
            refine n_icmp_ne (a := kd) (b := 7) (tgt := 292) hx hb (by omega) (by decide) dL_law_280 (by decide) (fun c_27 => ?_) (fun c_28 => ?_)
            · skip
              refine lv_iload hx hb dL_law_292 (lv_at hl 1 rfl) ?_
              refine lv_bipush (v := nI 6) hx hb dL_law_294 (by decide) ?_
              refine k_roS (As := [.int y9, .int (nI 6)]) (rest := []) (wc := []) (d := 0) (v := nI (loN y9 6)) cx (c_L_low l G T A y9 6 (by omega) (by omega)) (va_cwS 2 hts hL_L_low rfl rfl rfl (by decide +kernel) ⟨Nat.le_of_ble_eq_true rfl, Nat.le_of_ble_eq_true rfl⟩) (hP.sub (ws' := []) [] rfl) hK (hE.kept hS.2.1) rfl hl.1 rfl (Nat.le_of_ble_eq_true rfl) dL_law_296 ⟨by show _ ≤ 600130; omega, by show _ ≤ 7301080; omega⟩ ?_
              exact J_1 _ (by unfold laA; repeat (first | rw [if_pos (by omega)] | rw [if_neg (by omega)]))
            · skip
              refine lv_iload hx hb dL_law_283 (lv_at hl 1 rfl) ?_
              refine n_iconst hx hb 2 dL_law_285 (by decide) ?_
              refine k_roS (As := [.int y9, .int (nI 2)]) (rest := []) (wc := []) (d := 0) (v := nI (loN y9 2)) cx (c_L_low l G T A y9 2 (by omega) (by omega)) (va_cwS 2 hts hL_L_low rfl rfl rfl (by decide +kernel) ⟨Nat.le_of_ble_eq_true rfl, Nat.le_of_ble_eq_true rfl⟩) (hP.sub (ws' := []) [] rfl) hK (hE.kept hS.2.1) rfl hl.1 rfl (Nat.le_of_ble_eq_true rfl) dL_law_286 ⟨by show _ ≤ 600130; omega, by show _ ≤ 7301080; omega⟩ ?_
              refine lv_goto (tgt := 299) hx hb dL_law_289 (by decide) ?_
              exact J_1 _ (by unfold laA; repeat (first | rw [if_pos (by omega)] | rw [if_neg (by omega)]))
          · skip
            refine lv_iload hx hb dL_law_267 (lv_at hl 1 rfl) ?_
            refine n_iconst hx hb 3 dL_law_269 (by decide) ?_
            refine k_roS (As := [.int y9, .int (nI 3)]) (rest := []) (wc := []) (d := 0) (v := nI (loN y9 3)) cx (c_L_low l G T A y9 3 (by omega) (by omega)) (va_cwS 2 hts hL_L_low rfl rfl rfl (by decide +kernel) ⟨Nat.le_of_ble_eq_true rfl, Nat.le_of_ble_eq_true rfl⟩) (hP.sub (ws' := []) [] rfl) hK (hE.kept hS.2.1) rfl hl.1 rfl (Nat.le_of_ble_eq_true rfl) dL_law_270 ⟨by show _ ≤ 600130; omega, by show _ ≤ 7301080; omega⟩ ?_
            refine lv_goto (tgt := 299) hx hb dL_law_273 (by decide) ?_
            exact J_1 _ (by unfold laA; repeat (first | rw [if_pos (by omega)] | rw [if_neg (by omega)]))
      · skip
        refine lv_iload hx hb dL_law_244 (lv_at hl 1 rfl) ?_
        refine lv_bipush (v := nI 7) hx hb dL_law_246 (by decide) ?_
        refine k_roS (As := [.int y9, .int (nI 7)]) (rest := []) (wc := []) (d := 0) (v := nI (loN y9 7)) cx (c_L_low l G T A y9 7 (by omega) (by omega)) (va_cwS 2 hts hL_L_low rfl rfl rfl (by decide +kernel) ⟨Nat.le_of_ble_eq_true rfl, Nat.le_of_ble_eq_true rfl⟩) (hP.sub (ws' := []) [] rfl) hK (hE.kept hS.2.1) rfl hl.1 rfl (Nat.le_of_ble_eq_true rfl) dL_law_248 ⟨by show _ ≤ 600130; omega, by show _ ≤ 7301080; omega⟩ ?_
        refine lv_goto (tgt := 299) hx hb dL_law_251 (by decide) ?_
        exact J_1 _ (by unfold laA; repeat (first | rw [if_pos (by omega)] | rw [if_neg (by omega)]))
    · skip
      refine lv_iload hx hb dL_law_225 (lv_at hl 1 rfl) ?_
      refine n_iconst hx hb 4 dL_law_227 (by decide) ?_
      refine k_roS (As := [.int y9, .int (nI 4)]) (rest := []) (wc := []) (d := 0) (v := nI (loN y9 4)) cx (c_L_low l G T A y9 4 (by omega) (by omega)) (va_cwS 2 hts hL_L_low rfl rfl rfl (by decide +kernel) ⟨Nat.le_of_ble_eq_true rfl, Nat.le_of_ble_eq_true rfl⟩) (hP.sub (ws' := []) [] rfl) hK (hE.kept hS.2.1) rfl hl.1 rfl (Nat.le_of_ble_eq_true rfl) dL_law_228 ⟨by show _ ≤ 600130; omega, by show _ ≤ 7301080; omega⟩ ?_
      refine n_iconst hx hb 5 dL_law_231 (by decide) ?_
      refine n_imul (a := loN y9 4) (b := 5) hx hb dL_law_232 ?_
      refine n_iconst hx hb 2 dL_law_233 (by decide) ?_
      refine n_iadd (a := (loN y9 4) * 5) (b := 2) hx hb dL_law_234 ?_
      refine lv_goto (tgt := 299) hx hb dL_law_235 (by decide) ?_
      exact J_1 _ (by unfold laA; repeat (first | rw [if_pos (by omega)] | rw [if_neg (by omega)]))
  · skip
    refine lv_iload hx hb dL_law_205 (lv_at hl 1 rfl) ?_
    refine n_iconst hx hb 4 dL_law_207 (by decide) ?_
    refine k_roS (As := [.int y9, .int (nI 4)]) (rest := []) (wc := []) (d := 0) (v := nI (loN y9 4)) cx (c_L_low l G T A y9 4 (by omega) (by omega)) (va_cwS 2 hts hL_L_low rfl rfl rfl (by decide +kernel) ⟨Nat.le_of_ble_eq_true rfl, Nat.le_of_ble_eq_true rfl⟩) (hP.sub (ws' := []) [] rfl) hK (hE.kept hS.2.1) rfl hl.1 rfl (Nat.le_of_ble_eq_true rfl) dL_law_208 ⟨by show _ ≤ 600130; omega, by show _ ≤ 7301080; omega⟩ ?_
    refine n_iconst hx hb 5 dL_law_211 (by decide) ?_
    refine n_imul (a := loN y9 4) (b := 5) hx hb dL_law_212 ?_
    refine n_iconst hx hb 2 dL_law_213 (by decide) ?_
    refine n_iadd (a := (loN y9 4) * 5) (b := 2) hx hb dL_law_214 ?_
    refine lv_goto (tgt := 299) hx hb dL_law_215 (by decide) ?_
    exact J_1 _ (by unfold laA; repeat (first | rw [if_pos (by omega)] | rw [if_neg (by omega)]))
end LAW
