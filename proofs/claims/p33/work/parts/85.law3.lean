/-! the law: 85.law3 (printed by wip/p33/slaw.py) -/
section LAW
variable {p : Program} {l : Launch} {e : Env} {s : State} {m : MethodId} {below : List Frame} {meth : Method} {c : Code} {b L : Nat} {xs : Nat → Int32} {G : va_G} {T : Nat → ClassId} {A : Nat → Prop} {a9 : CA} {aq at9 ar ab : Nat} {Q : State → Prop}
set_option maxHeartbeats 16000000 in
set_option maxRecDepth 100000 in
/-- a turn from told on -/
theorem law_3 (E : lwE l p s m c b L xs G T A) {i B cells slots : Nat} (hB : 12 * (B + 2) < 2 ^ 31) (hcs : cells + 2 ≤ 600130 ∧ slots + 12 ≤ 7301080) (c9 : CC) {fq ft fr fb : Nat → Int32} {tn : Nat → Nat} (hJ_c9 : JX B c9 fq ft fr fb tn) (x9 y9 : Int32) {kd tu : Nat} (hok : okA kd (laA kd y9) (laE kd (laA kd y9) y9)) (hTy : TyO c9.2.2.2.2.2.1 kd tu) (htu : tu < 167772160) {H : Heap} {locs : List Loc} {ls : Array Slot} (hP : va_P G vwCl (lwW T aq at9 ar ab fq ft fr fb a9 c9) H) (hD : va_D A (lwW T aq at9 ar ab fq ft fr fb a9 c9)) (hS : va_S A s.heap H locs) (hl : lv_has ls 16 [(12, .int (nI tu)), (11, .int (nI (laE kd (laA kd y9) y9))), (10, .int (nI (laA kd y9))), (9, .int (nI kd)), (8, .int y9), (7, .int x9), (0, .ref b), (1, .ref (a9.1 0)), (2, .ref aq), (3, .ref at9), (4, .ref ar), (5, .ref ab), (6, .int (nI i))]) (kk : ∀ (H : Heap) (locs : List Loc) (ls : Array Slot) (c9 : CC), va_P G vwCl (lwW T aq at9 ar ab (dQ fq ft fr fb tn kd (laA kd y9) (laE kd (laA kd y9) y9) tu) (dT fq ft fr fb tn kd (laA kd y9) (laE kd (laA kd y9) y9) tu) (dR fq ft fr fb tn kd (laA kd y9) (laE kd (laA kd y9) y9) tu) (dBb fq ft fr fb tn kd (laA kd y9) (laE kd (laA kd y9) y9) tu) a9 c9) H → va_D A (lwW T aq at9 ar ab (dQ fq ft fr fb tn kd (laA kd y9) (laE kd (laA kd y9) y9) tu) (dT fq ft fr fb tn kd (laA kd y9) (laE kd (laA kd y9) y9) tu) (dR fq ft fr fb tn kd (laA kd y9) (laE kd (laA kd y9) y9) tu) (dBb fq ft fr fb tn kd (laA kd y9) (laE kd (laA kd y9) y9) tu) a9 c9) → va_S A s.heap H locs → JX (B + 1) c9 (dQ fq ft fr fb tn kd (laA kd y9) (laE kd (laA kd y9) y9) tu) (dT fq ft fr fb tn kd (laA kd y9) (laE kd (laA kd y9) y9) tu) (dR fq ft fr fb tn kd (laA kd y9) (laE kd (laA kd y9) y9) tu) (dBb fq ft fr fb tn kd (laA kd y9) (laE kd (laA kd y9) y9) tu) (dN tn kd (laA kd y9) tu) → lv_has ls 16 [(0, .ref b), (1, .ref (a9.1 0)), (2, .ref aq), (3, .ref at9), (4, .ref ar), (5, .ref ab), (6, .int (nI i))] → W p l e room_1 s m #[Value.ref b] below meth c H locs (cells + 2) (slots + 12) Q (F0 m 573 ls [])) : W p l e room_1 s m #[Value.ref b] below meth c H locs cells slots Q (F0 m 420 ls []) := by
  have E9 := E
  obtain ⟨hx, hb, hml, hown, hts, hX, hbl, hbA, hA, hst, hK, hE, hgC, hgN⟩ := E9
  have cx : CallFix p m c cL_law 16 s #[Value.ref b] wsLw RL := ⟨hx, hb, hml, hown, hts⟩
  refine lv_aload_n hx hb dL_law_420 rfl (lv_at hl 7 rfl) ?_
  obtain ⟨c1, hT_c1, hJ_c1, hS_c1, hh1_c1, hh2_c1, hX_c1⟩ := st_told l G T a9 c9 hJ_c9
  refine k_rlS (As := [.ref (a9.1 0)]) (rest := []) (wc := (lwW T aq at9 ar ab fq ft fr fb a9 c9)) (wr := []) (w1 := (lwW T aq at9 ar ab fq ft fr fb a9 c1)) (d := 8) (mc := 0) (ms := 0) (v := tdT c9.2.1) cx (RWl.fr (hT_c1 H.size) (Fr.head (lwR T aq at9 ar ab fq ft fr fb) (oC T a9 c9) (oC T a9 c1))) (va_cwS 1 hts hL_L_told rfl rfl rfl (by decide +kernel) ⟨Nat.le_of_ble_eq_true rfl, Nat.le_of_ble_eq_true rfl⟩) (kN_full hP hD hS hA hE hK) rfl hl.1 rfl (Nat.le_of_ble_eq_true rfl) dL_law_421 ⟨by show _ ≤ 600130; omega, by show _ ≤ 7301080; omega⟩ (fun H locs hP hD hS hz => ?_)
  have hP : va_P G vwCl (lwW T aq at9 ar ab fq ft fr fb a9 c1) H := hP
  have hD : va_D A (lwW T aq at9 ar ab fq ft fr fb a9 c1) := hD
  refine lv_lstore (lv' := [(13, .long (tdT c9.2.1)), (12, .int (nI tu)), (11, .int (nI (laE kd (laA kd y9) y9))), (10, .int (nI (laA kd y9))), (9, .int (nI kd)), (8, .int y9), (7, .int x9), (0, .ref b), (1, .ref (a9.1 0)), (2, .ref aq), (3, .ref at9), (4, .ref ar), (5, .ref ab), (6, .int (nI i))]) hx hb dL_law_424 hl (by decide) rfl (fun ls hl => ?_)
  refine lv_aload_n hx hb dL_law_426 rfl (lv_at hl 8 rfl) ?_
  refine lv_iload hx hb dL_law_427 (lv_at hl 4 rfl) ?_
  refine lv_iload hx hb dL_law_429 (lv_at hl 3 rfl) ?_
  refine lv_iload hx hb dL_law_431 (lv_at hl 2 rfl) ?_
  obtain ⟨c2, hC_c2, hJ_c2, hv_c2⟩ := st_call l hst G T a9 (show B + 1 < 2 ^ 31 by omega) c1 hok hJ_c1 (by rw [hX_c1]; exact hTy)
  refine k_cxS (As := [.ref (a9.1 0), .int (nI kd), .int (nI (laA kd y9)), .int (nI (laE kd (laA kd y9) y9))]) (rest := []) (wc := (lwW T aq at9 ar ab fq ft fr fb a9 c1)) (wr := []) (w1 := (lwW T aq at9 ar ab fq ft fr fb a9 c2)) (d := 15) (v := dV fq ft fr fb tn kd (laA kd y9) (laE kd (laA kd y9) y9) tu) cx (CX.fr (hC_c2 H.size) (Fr.head (lwR T aq at9 ar ab fq ft fr fb) (oC T a9 c1) (oC T a9 c2))) (va_cwS 4 hts hL_L_call rfl rfl rfl (by decide +kernel) ⟨Nat.le_of_ble_eq_true rfl, Nat.le_of_ble_eq_true rfl⟩) (va_cwS 4 hts hL_L_call rfl rfl rfl (by decide +kernel) ⟨Nat.le_of_ble_eq_true rfl, Nat.le_of_ble_eq_true rfl⟩) (kN_full hP hD hS hA hE hK) hgC hgN rfl hl.1 rfl (Nat.le_of_ble_eq_true rfl) dL_law_433 ⟨by show _ ≤ 600130; omega, by show _ ≤ 7301080; omega⟩ (fun H locs hP hD hS hz => ?_)
  have hP : va_P G vwCl (lwW T aq at9 ar ab fq ft fr fb a9 c2) H := hP
  have hD : va_D A (lwW T aq at9 ar ab fq ft fr fb a9 c2) := hD
  refine lv_istore (lv' := [(15, .int (dV fq ft fr fb tn kd (laA kd y9) (laE kd (laA kd y9) y9) tu)), (13, .long (tdT c9.2.1)), (12, .int (nI tu)), (11, .int (nI (laE kd (laA kd y9) y9))), (10, .int (nI (laA kd y9))), (9, .int (nI kd)), (8, .int y9), (7, .int x9), (0, .ref b), (1, .ref (a9.1 0)), (2, .ref aq), (3, .ref at9), (4, .ref ar), (5, .ref ab), (6, .int (nI i))]) hx hb dL_law_436 hl (by decide) rfl (fun ls hl => ?_)
  have hsame : dV fq ft fr fb tn kd (laA kd y9) (laE kd (laA kd y9) y9) tu < -100 → c2.2.1 = c9.2.1 := fun h9 => hv_c2.elim (fun q => q.2.trans hS_c1) (fun q => absurd h9 q.1)
  refine lv_iload hx hb dL_law_438 (lv_at hl 5 rfl) ?_
  refine n_if_ne (a := kd) (tgt := 451) hx hb (by have := hok.1; omega) dL_law_440 (by decide) (fun hk0 => ?_) (fun hk0 => ?_)
  · skip
    refine lv_iload hx hb dL_law_451 (lv_at hl 0 rfl) ?_
    refine lv_bipush (v := (-100)) hx hb dL_law_453 (by decide) ?_
    refine lv_icmp_ge (tgt := 471) hx hb dL_law_455 (by decide) (fun h9 => ?_) (fun h9 => ?_)
    · skip
      refine lv_iload hx hb dL_law_471 (lv_at hl 7 rfl) ?_
      refine lv_bipush (v := nI 24) hx hb dL_law_473 (by decide) ?_
      refine x_ishr hx hb dL_law_475 ?_
      refine n_iconst hx hb 3 dL_law_476 (by decide) ?_
      refine lv_iand hx hb dL_law_477 ?_
      refine lv_if_ne (tgt := 515) hx hb dL_law_478 (by decide) (fun _ => ?_) (fun _ => ?_)
      · exact W.widen (k := cells + 2) (n := slots + 12) (by omega) (by omega) (law_4 E hB ⟨by omega, by omega⟩ c9 hJ_c9.1 x9 y9 hok htu c2 hJ_c2 hsame hP hD hS hl kk)
      have hU : PU c2 c1.2.1 := hv_c2.elim (fun q => absurd (by rw [q.1]; decide : dV fq ft fr fb tn kd (laA kd y9) (laE kd (laA kd y9) y9) tu < -100) (Int32.not_lt.mpr h9)) (fun q => q.2)
      obtain ⟨nx, hx1, hx2⟩ := hJ_c2.2.2
      refine lv_aload_n hx hb dL_law_481 rfl (lv_at hl 9 rfl) ?_
      obtain ⟨c3, nu, hn7, hC_c3, hJ_c3, hS_c3⟩ := st_undo l G T a9 c2 hU hx1 hx2 hJ_c1.1
      refine k_lwS (As := [.ref (a9.1 0)]) (rest := []) (wc := (lwW T aq at9 ar ab fq ft fr fb a9 c2)) (wr := []) (w1 := (lwW T aq at9 ar ab fq ft fr fb a9 c3)) (d := 4) (mc := 0) (ms := 0) (v := nI nu) cx (RWi.fr (hC_c3 H.size) (Fr.head (lwR T aq at9 ar ab fq ft fr fb) (oC T a9 c2) (oC T a9 c3))) (vx_cwSW 1 hts hL_L_undo rfl rfl rfl (by decide +kernel) ⟨Nat.le_of_ble_eq_true rfl, Nat.le_of_ble_eq_true rfl⟩) (kN_full hP hD hS hA hE hK) rfl hl.1 rfl (Nat.le_of_ble_eq_true rfl) dL_law_482 ⟨by show _ ≤ 600130; omega, by show _ ≤ 7301080; omega⟩ (fun H locs hP hD hS hz => ?_)
      have hP : va_P G vwCl (lwW T aq at9 ar ab fq ft fr fb a9 c3) H := hP
      have hD : va_D A (lwW T aq at9 ar ab fq ft fr fb a9 c3) := hD
      refine n_if_lt (a := nu) hx hb (by omega) dL_law_485 513 (by decide) ?_
      refine lv_aload_n hx hb dL_law_488 rfl (lv_at hl 9 rfl) ?_
      obtain ⟨c4, hT_c4, hJ_c4, hS_c4, hh1_c4, hh2_c4, hX_c4⟩ := st_told l G T a9 c3 hJ_c3
      refine k_rlS (As := [.ref (a9.1 0)]) (rest := []) (wc := (lwW T aq at9 ar ab fq ft fr fb a9 c3)) (wr := []) (w1 := (lwW T aq at9 ar ab fq ft fr fb a9 c4)) (d := 8) (mc := 0) (ms := 0) (v := tdT c3.2.1) cx (RWl.fr (hT_c4 H.size) (Fr.head (lwR T aq at9 ar ab fq ft fr fb) (oC T a9 c3) (oC T a9 c4))) (va_cwS 1 hts hL_L_told rfl rfl rfl (by decide +kernel) ⟨Nat.le_of_ble_eq_true rfl, Nat.le_of_ble_eq_true rfl⟩) (kN_full hP hD hS hA hE hK) rfl hl.1 rfl (Nat.le_of_ble_eq_true rfl) dL_law_489 ⟨by show _ ≤ 600130; omega, by show _ ≤ 7301080; omega⟩ (fun H locs hP hD hS hz => ?_)
      have hP : va_P G vwCl (lwW T aq at9 ar ab fq ft fr fb a9 c4) H := hP
      have hD : va_D A (lwW T aq at9 ar ab fq ft fr fb a9 c4) := hD
      refine lv_lload hx hb dL_law_492 (lv_at hl 1 rfl) ?_
      refine W.lcmp hx hb dL_law_494 ?_
      refine lv_if_ne (tgt := 513) hx hb dL_law_495 (by decide) (fun h8 => absurd (by rw [hS_c3, hS_c1]; exact lg_self _) h8) (fun _ => ?_)
      refine lv_aload_n hx hb dL_law_498 rfl (lv_at hl 9 rfl) ?_
      refine lv_iload hx hb dL_law_499 (lv_at hl 5 rfl) ?_
      refine lv_iload hx hb dL_law_501 (lv_at hl 4 rfl) ?_
      refine lv_iload hx hb dL_law_503 (lv_at hl 3 rfl) ?_
      obtain ⟨c5, hC_c5, hJ_c5, hv_c5⟩ := st_call l hst G T a9 (show B + 1 < 2 ^ 31 by omega) c4 hok hJ_c4 (fun h8 => absurd h8 hk0)
      refine k_cxS (As := [.ref (a9.1 0), .int (nI kd), .int (nI (laA kd y9)), .int (nI (laE kd (laA kd y9) y9))]) (rest := []) (wc := (lwW T aq at9 ar ab fq ft fr fb a9 c4)) (wr := []) (w1 := (lwW T aq at9 ar ab fq ft fr fb a9 c5)) (d := 15) (v := dV fq ft fr fb tn kd (laA kd y9) (laE kd (laA kd y9) y9) tu) cx (CX.fr (hC_c5 H.size) (Fr.head (lwR T aq at9 ar ab fq ft fr fb) (oC T a9 c4) (oC T a9 c5))) (va_cwS 4 hts hL_L_call rfl rfl rfl (by decide +kernel) ⟨Nat.le_of_ble_eq_true rfl, Nat.le_of_ble_eq_true rfl⟩) (va_cwS 4 hts hL_L_call rfl rfl rfl (by decide +kernel) ⟨Nat.le_of_ble_eq_true rfl, Nat.le_of_ble_eq_true rfl⟩) (kN_full hP hD hS hA hE hK) hgC hgN rfl hl.1 rfl (Nat.le_of_ble_eq_true rfl) dL_law_505 ⟨by show _ ≤ 600130; omega, by show _ ≤ 7301080; omega⟩ (fun H locs hP hD hS hz => ?_)
      have hP : va_P G vwCl (lwW T aq at9 ar ab fq ft fr fb a9 c5) H := hP
      have hD : va_D A (lwW T aq at9 ar ab fq ft fr fb a9 c5) := hD
      refine lv_iload hx hb dL_law_508 (lv_at hl 0 rfl) ?_
      refine lv_icmp_eq (tgt := 515) hx hb dL_law_510 (by decide) (fun _ => ?_) (fun h8 => absurd rfl h8)
      exact W.widen (k := cells + 2) (n := slots + 12) (by omega) (by omega) (law_4 E hB ⟨by omega, by omega⟩ c9 hJ_c9.1 x9 y9 hok htu c5 hJ_c5 (fun q => absurd q (Int32.not_lt.mpr h9)) hP hD hS hl kk)
    · skip
      refine lv_aload_n hx hb dL_law_458 rfl (lv_at hl 9 rfl) ?_
      obtain ⟨c3, hT_c3, hJ_c3, hS_c3, hh1_c3, hh2_c3, hX_c3⟩ := st_told l G T a9 c2 hJ_c2
      refine k_rlS (As := [.ref (a9.1 0)]) (rest := []) (wc := (lwW T aq at9 ar ab fq ft fr fb a9 c2)) (wr := []) (w1 := (lwW T aq at9 ar ab fq ft fr fb a9 c3)) (d := 8) (mc := 0) (ms := 0) (v := tdT c2.2.1) cx (RWl.fr (hT_c3 H.size) (Fr.head (lwR T aq at9 ar ab fq ft fr fb) (oC T a9 c2) (oC T a9 c3))) (va_cwS 1 hts hL_L_told rfl rfl rfl (by decide +kernel) ⟨Nat.le_of_ble_eq_true rfl, Nat.le_of_ble_eq_true rfl⟩) (kN_full hP hD hS hA hE hK) rfl hl.1 rfl (Nat.le_of_ble_eq_true rfl) dL_law_459 ⟨by show _ ≤ 600130; omega, by show _ ≤ 7301080; omega⟩ (fun H locs hP hD hS hz => ?_)
      have hP : va_P G vwCl (lwW T aq at9 ar ab fq ft fr fb a9 c3) H := hP
      have hD : va_D A (lwW T aq at9 ar ab fq ft fr fb a9 c3) := hD
      refine lv_lload hx hb dL_law_462 (lv_at hl 1 rfl) ?_
      refine W.lcmp hx hb dL_law_464 ?_
      refine lv_if_eq (tgt := 515) hx hb dL_law_465 (by decide) (fun _ => ?_) (fun h8 => absurd (by rw [hsame (Int32.not_le.mp h9)]; exact lg_self _) h8)
      exact W.widen (k := cells + 2) (n := slots + 12) (by omega) (by omega) (law_4 E hB ⟨by omega, by omega⟩ c9 hJ_c9.1 x9 y9 hok htu c3 hJ_c3 (fun q => hS_c3.trans (hsame q)) hP hD hS hl kk)
  · skip
    refine lv_aload_n hx hb dL_law_443 rfl (lv_at hl 9 rfl) ?_
    obtain ⟨c3, nx9, hC_c3, hJ_c3, hS_c3⟩ := st_clear l G T a9 c2 hJ_c2
    refine k_rwV (As := []) (rest := []) (wc := (lwW T aq at9 ar ab fq ft fr fb a9 c2)) (wr := []) (w1 := (lwW T aq at9 ar ab fq ft fr fb a9 c3)) (d := 1) (mc := 0) (ms := 0) (v := nI nx9) cx (RWi.fr (hC_c3 H.size) (Fr.head (lwR T aq at9 ar ab fq ft fr fb) (oC T a9 c2) (oC T a9 c3))) (cwV 0 hts hL_X7_clearBuffer rfl rfl rfl (by decide +kernel) ⟨Nat.le_of_ble_eq_true rfl, Nat.le_of_ble_eq_true rfl⟩) (kN_full hP hD hS hA hE hK) (lw_recv hK hP) rfl hl.1 rfl (Nat.le_of_ble_eq_true rfl) dL_law_444 ⟨by show _ ≤ 600130; omega, by show _ ≤ 7301080; omega⟩ (fun H locs hP hD hS hz => ?_)
    have hP : va_P G vwCl (lwW T aq at9 ar ab fq ft fr fb a9 c3) H := hP
    have hD : va_D A (lwW T aq at9 ar ab fq ft fr fb a9 c3) := hD
    refine lv_pop hx hb dL_law_447 rfl ?_
    refine lv_goto (tgt := 515) hx hb dL_law_448 (by decide) ?_
    exact W.widen (k := cells + 2) (n := slots + 12) (by omega) (by omega) (law_4 E hB ⟨by omega, by omega⟩ c9 hJ_c9.1 x9 y9 hok htu c3 hJ_c3 (fun q => hS_c3.trans (hsame q)) hP hD hS hl kk)
end LAW
