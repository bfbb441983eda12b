/-! the law: 84.law4 (printed by wip/p33/slaw.py) -/
section LAW
variable {p : Program} {l : Launch} {e : Env} {s : State} {m : MethodId} {below : List Frame} {meth : Method} {c : Code} {b L : Nat} {xs : Nat → Int32} {G : va_G} {T : Nat → ClassId} {A : Nat → Prop} {a9 : CA} {aq at9 ar ab : Nat} {Q : State → Prop}
set_option maxHeartbeats 16000000 in
set_option maxRecDepth 100000 in
/-- the end of a turn: what is due, and the looks -/
theorem law_4 (E : lwE l p s m c b L xs G T A) {i B cells slots : Nat} (hB : 12 * (B + 2) < 2 ^ 31) (hcs : cells ≤ 600130 ∧ slots ≤ 7301080) (c9 : CC) {fq ft fr fb : Nat → Int32} {tn : Nat → Nat} (hM : JM B c9.2.1 fq ft fr fb tn) (x9 y9 : Int32) {kd tu : Nat} (hok : okA kd (laA kd y9) (laE kd (laA kd y9) y9)) (htu : tu < 167772160) (c3 : CC) (hJ_c3 : JX (B + 1) c3 (dQ fq ft fr fb tn kd (laA kd y9) (laE kd (laA kd y9) y9) tu) (dT fq ft fr fb tn kd (laA kd y9) (laE kd (laA kd y9) y9) tu) (dR fq ft fr fb tn kd (laA kd y9) (laE kd (laA kd y9) y9) tu) (dBb fq ft fr fb tn kd (laA kd y9) (laE kd (laA kd y9) y9) tu) (dN tn kd (laA kd y9) tu)) (hv : dV fq ft fr fb tn kd (laA kd y9) (laE kd (laA kd y9) y9) tu < -100 → c3.2.1 = c9.2.1) {H : Heap} {locs : List Loc} {ls : Array Slot} (hP : va_P G vwCl (lwW T aq at9 ar ab fq ft fr fb a9 c3) H) (hD : va_D A (lwW T aq at9 ar ab fq ft fr fb a9 c3)) (hS : va_S A s.heap H locs) (hl : lv_has ls 16 [(15, .int (dV fq ft fr fb tn kd (laA kd y9) (laE kd (laA kd y9) y9) tu)), (13, .long (tdT c9.2.1)), (12, .int (nI tu)), (11, .int (nI (laE kd (laA kd y9) y9))), (10, .int (nI (laA kd y9))), (9, .int (nI kd)), (8, .int y9), (7, .int x9), (0, .ref b), (1, .ref (a9.1 0)), (2, .ref aq), (3, .ref at9), (4, .ref ar), (5, .ref ab), (6, .int (nI i))]) (kk : ∀ (H : Heap) (locs : List Loc) (ls : Array Slot) (c9 : CC), va_P G vwCl (lwW T aq at9 ar ab (dQ fq ft fr fb tn kd (laA kd y9) (laE kd (laA kd y9) y9) tu) (dT fq ft fr fb tn kd (laA kd y9) (laE kd (laA kd y9) y9) tu) (dR fq ft fr fb tn kd (laA kd y9) (laE kd (laA kd y9) y9) tu) (dBb fq ft fr fb tn kd (laA kd y9) (laE kd (laA kd y9) y9) tu) a9 c9) H → va_D A (lwW T aq at9 ar ab (dQ fq ft fr fb tn kd (laA kd y9) (laE kd (laA kd y9) y9) tu) (dT fq ft fr fb tn kd (laA kd y9) (laE kd (laA kd y9) y9) tu) (dR fq ft fr fb tn kd (laA kd y9) (laE kd (laA kd y9) y9) tu) (dBb fq ft fr fb tn kd (laA kd y9) (laE kd (laA kd y9) y9) tu) a9 c9) → va_S A s.heap H locs → JX (B + 1) c9 (dQ fq ft fr fb tn kd (laA kd y9) (laE kd (laA kd y9) y9) tu) (dT fq ft fr fb tn kd (laA kd y9) (laE kd (laA kd y9) y9) tu) (dR fq ft fr fb tn kd (laA kd y9) (laE kd (laA kd y9) y9) tu) (dBb fq ft fr fb tn kd (laA kd y9) (laE kd (laA kd y9) y9) tu) (dN tn kd (laA kd y9) tu) → lv_has ls 16 [(0, .ref b), (1, .ref (a9.1 0)), (2, .ref aq), (3, .ref at9), (4, .ref ar), (5, .ref ab), (6, .int (nI i))] → W p l e room_1 s m #[Value.ref b] below meth c H locs cells slots Q (F0 m 573 ls [])) : W p l e room_1 s m #[Value.ref b] below meth c H locs cells slots Q (F0 m 515 ls []) := by
  obtain ⟨hx, hb, hml, hown, hts, hX, hbl, hbA, hA, hst, hK, hE, hgC, hgN⟩ := E
  have cx : CallFix p m c cL_law 16 s #[Value.ref b] wsLw RL := ⟨hx, hb, hml, hown, hts⟩
  have htu9 := htu
  have K : ∀ (H : Heap) (locs : List Loc) (c3 : CC), va_P G vwCl (lwW T aq at9 ar ab fq ft fr fb a9 c3) H → va_D A (lwW T aq at9 ar ab fq ft fr fb a9 c3) → va_S A s.heap H locs → JX (B + 1) c3 (dQ fq ft fr fb tn kd (laA kd y9) (laE kd (laA kd y9) y9) tu) (dT fq ft fr fb tn kd (laA kd y9) (laE kd (laA kd y9) y9) tu) (dR fq ft fr fb tn kd (laA kd y9) (laE kd (laA kd y9) y9) tu) (dBb fq ft fr fb tn kd (laA kd y9) (laE kd (laA kd y9) y9) tu) (dN tn kd (laA kd y9) tu) → W p l e room_1 s m #[Value.ref b] below meth c H locs cells slots Q (F0 m 532 ls []) := by
    intro H locs c3 hP hD hS hJ_c3
    refine lv_iload hx hb dL_law_532 (lv_at hl 0 rfl) ?_
    refine lv_iload hx hb dL_law_534 (lv_at hl 5 rfl) ?_
    refine lv_iload hx hb dL_law_536 (lv_at hl 4 rfl) ?_
    refine lv_iload hx hb dL_law_538 (lv_at hl 3 rfl) ?_
    refine lv_iload hx hb dL_law_540 (lv_at hl 2 rfl) ?_
    refine lv_aload_n hx hb dL_law_542 rfl (lv_at hl 10 rfl) ?_
    refine lv_aload_n hx hb dL_law_543 rfl (lv_at hl 11 rfl) ?_
    refine lv_aload hx hb dL_law_544 (lv_at hl 12 rfl) ?_
    refine lv_aload hx hb dL_law_546 (lv_at hl 13 rfl) ?_
    refine k_rwS (As := [.int (nI kd), .int (nI (laA kd y9)), .int (nI (laE kd (laA kd y9) y9)), .int (nI tu), .ref aq, .ref at9, .ref ar, .ref ab]) (rest := [.int (dV fq ft fr fb tn kd (laA kd y9) (laE kd (laA kd y9) y9) tu)]) (wc := (lwW T aq at9 ar ab fq ft fr fb a9 c3)) (wr := []) (w1 := (lwW T aq at9 ar ab (dQ fq ft fr fb tn kd (laA kd y9) (laE kd (laA kd y9) y9) tu) (dT fq ft fr fb tn kd (laA kd y9) (laE kd (laA kd y9) y9) tu) (dR fq ft fr fb tn kd (laA kd y9) (laE kd (laA kd y9) y9) tu) (dBb fq ft fr fb tn kd (laA kd y9) (laE kd (laA kd y9) y9) tu) a9 c3)) (d := 3) (mc := 0) (ms := 0) (v := dV fq ft fr fb tn kd (laA kd y9) (laE kd (laA kd y9) y9) tu) cx (RWi.fr (st_due l G T aq at9 ar ab hok hM htu H.size) (Fr.tail (lwR T aq at9 ar ab fq ft fr fb) (lwR T aq at9 ar ab (dQ fq ft fr fb tn kd (laA kd y9) (laE kd (laA kd y9) y9) tu) (dT fq ft fr fb tn kd (laA kd y9) (laE kd (laA kd y9) y9) tu) (dR fq ft fr fb tn kd (laA kd y9) (laE kd (laA kd y9) y9) tu) (dBb fq ft fr fb tn kd (laA kd y9) (laE kd (laA kd y9) y9) tu)) (oC T a9 c3))) (va_cwS 8 hts hL_L_due rfl rfl rfl (by decide +kernel) ⟨Nat.le_of_ble_eq_true rfl, Nat.le_of_ble_eq_true rfl⟩) (kN_full hP hD hS hA hE hK) rfl hl.1 rfl (Nat.le_of_ble_eq_true rfl) dL_law_548 ⟨by show _ ≤ 600130; omega, by show _ ≤ 7301080; omega⟩ (fun H locs hP hD hS hz => ?_)
    have hP : va_P G vwCl (lwW T aq at9 ar ab (dQ fq ft fr fb tn kd (laA kd y9) (laE kd (laA kd y9) y9) tu) (dT fq ft fr fb tn kd (laA kd y9) (laE kd (laA kd y9) y9) tu) (dR fq ft fr fb tn kd (laA kd y9) (laE kd (laA kd y9) y9) tu) (dBb fq ft fr fb tn kd (laA kd y9) (laE kd (laA kd y9) y9) tu) a9 c3) H := hP
    have hD : va_D A (lwW T aq at9 ar ab (dQ fq ft fr fb tn kd (laA kd y9) (laE kd (laA kd y9) y9) tu) (dT fq ft fr fb tn kd (laA kd y9) (laE kd (laA kd y9) y9) tu) (dR fq ft fr fb tn kd (laA kd y9) (laE kd (laA kd y9) y9) tu) (dBb fq ft fr fb tn kd (laA kd y9) (laE kd (laA kd y9) y9) tu) a9 c3) := hD
    refine lv_icmp_ne (tgt := 571) hx hb dL_law_551 (by decide) (fun h9 => absurd rfl h9) (fun _ => ?_)
    refine lv_aload_n hx hb dL_law_554 rfl (lv_at hl 9 rfl) ?_
    refine lv_iload hx hb dL_law_555 (lv_at hl 7 rfl) ?_
    refine n_iconst hx hb 5 dL_law_557 (by decide) ?_
    refine x_ishr hx hb dL_law_558 ?_
    refine lv_aload_n hx hb dL_law_559 rfl (lv_at hl 10 rfl) ?_
    refine lv_aload_n hx hb dL_law_560 rfl (lv_at hl 11 rfl) ?_
    refine lv_aload hx hb dL_law_561 (lv_at hl 12 rfl) ?_
    refine lv_aload hx hb dL_law_563 (lv_at hl 13 rfl) ?_
    obtain ⟨c4, hI_c4, hJ_c4⟩ := st_isSo l G T a9 aq at9 ar ab (show 12 * (B + 1) < 2 ^ 31 by omega) c3 hJ_c3 (iShr x9 (nI 5))
    refine k_rwS (As := [.ref (a9.1 0), .int (iShr x9 (nI 5)), .ref aq, .ref at9, .ref ar, .ref ab]) (rest := []) (wc := (lwW T aq at9 ar ab (dQ fq ft fr fb tn kd (laA kd y9) (laE kd (laA kd y9) y9) tu) (dT fq ft fr fb tn kd (laA kd y9) (laE kd (laA kd y9) y9) tu) (dR fq ft fr fb tn kd (laA kd y9) (laE kd (laA kd y9) y9) tu) (dBb fq ft fr fb tn kd (laA kd y9) (laE kd (laA kd y9) y9) tu) a9 c3)) (wr := []) (w1 := (lwW T aq at9 ar ab (dQ fq ft fr fb tn kd (laA kd y9) (laE kd (laA kd y9) y9) tu) (dT fq ft fr fb tn kd (laA kd y9) (laE kd (laA kd y9) y9) tu) (dR fq ft fr fb tn kd (laA kd y9) (laE kd (laA kd y9) y9) tu) (dBb fq ft fr fb tn kd (laA kd y9) (laE kd (laA kd y9) y9) tu) a9 c4)) (d := 17) (mc := 0) (ms := 0) (v := nI 1) cx (hI_c4 H.size) (va_cwS 6 hts hL_L_isSo rfl rfl rfl (by decide +kernel) ⟨Nat.le_of_ble_eq_true rfl, Nat.le_of_ble_eq_true rfl⟩) (kN_full hP hD hS hA hE hK) rfl hl.1 rfl (Nat.le_of_ble_eq_true rfl) dL_law_565 ⟨by show _ ≤ 600130; omega, by show _ ≤ 7301080; omega⟩ (fun H locs hP hD hS hz => ?_)
    have hP : va_P G vwCl (lwW T aq at9 ar ab (dQ fq ft fr fb tn kd (laA kd y9) (laE kd (laA kd y9) y9) tu) (dT fq ft fr fb tn kd (laA kd y9) (laE kd (laA kd y9) y9) tu) (dR fq ft fr fb tn kd (laA kd y9) (laE kd (laA kd y9) y9) tu) (dBb fq ft fr fb tn kd (laA kd y9) (laE kd (laA kd y9) y9) tu) a9 c4) H := hP
    have hD : va_D A (lwW T aq at9 ar ab (dQ fq ft fr fb tn kd (laA kd y9) (laE kd (laA kd y9) y9) tu) (dT fq ft fr fb tn kd (laA kd y9) (laE kd (laA kd y9) y9) tu) (dR fq ft fr fb tn kd (laA kd y9) (laE kd (laA kd y9) y9) tu) (dBb fq ft fr fb tn kd (laA kd y9) (laE kd (laA kd y9) y9) tu) a9 c4) := hD
    refine n_if_ne (a := 1) (tgt := 573) hx hb (by decide) dL_law_568 (by decide) (fun _ => ?_) (fun h9 => absurd h9 (by decide))
    exact kk _ _ _ c4 hP hD hS hJ_c4 (lv_sub hl [8, 9, 10, 11, 12, 13, 14] rfl)
  refine lv_iload hx hb dL_law_515 (lv_at hl 0 rfl) ?_
  refine lv_bipush (v := (-100)) hx hb dL_law_517 (by decide) ?_
  refine lv_icmp_ge (tgt := 532) hx hb dL_law_519 (by decide) (fun h9 => ?_) (fun h9 => ?_)
  · exact K _ _ c3 hP hD hS hJ_c3
  · have hlt : dV fq ft fr fb tn kd (laA kd y9) (laE kd (laA kd y9) y9) tu < -100 := Int32.not_le.mp h9
    have hSS := hv hlt
    refine lv_aload_n hx hb dL_law_522 rfl (lv_at hl 9 rfl) ?_
    obtain ⟨c4, hT_c4, hJ_c4, hS_c4, -, -, -⟩ := st_told l G T a9 c3 hJ_c3
    refine k_rlS (As := [.ref (a9.1 0)]) (rest := []) (wc := (lwW T aq at9 ar ab fq ft fr fb a9 c3)) (wr := []) (w1 := (lwW T aq at9 ar ab fq ft fr fb a9 c4)) (d := 8) (mc := 0) (ms := 0) (v := tdT c3.2.1) cx (RWl.fr (hT_c4 H.size) (Fr.head (lwR T aq at9 ar ab fq ft fr fb) (oC T a9 c3) (oC T a9 c4))) (va_cwS 1 hts hL_L_told rfl rfl rfl (by decide +kernel) ⟨Nat.le_of_ble_eq_true rfl, Nat.le_of_ble_eq_true rfl⟩) (kN_full hP hD hS hA hE hK) rfl hl.1 rfl (Nat.le_of_ble_eq_true rfl) dL_law_523 ⟨by show _ ≤ 600130; omega, by show _ ≤ 7301080; omega⟩ (fun H locs hP hD hS hz => ?_)
    have hP : va_P G vwCl (lwW T aq at9 ar ab fq ft fr fb a9 c4) H := hP
    have hD : va_D A (lwW T aq at9 ar ab fq ft fr fb a9 c4) := hD
    refine lv_lload hx hb dL_law_526 (lv_at hl 1 rfl) ?_
    refine W.lcmp hx hb dL_law_528 ?_
    refine lv_if_ne (tgt := 571) hx hb dL_law_529 (by decide) (fun h8 => absurd (by rw [hSS]; exact lg_self _) h8) (fun _ => ?_)
    exact K _ _ c4 hP hD hS hJ_c4
end LAW
