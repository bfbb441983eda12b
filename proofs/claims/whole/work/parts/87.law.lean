/-! the law's loop and its start -/
theorem JX.mono {B : Nat} {c9 : CC} {Z : Nat → Nat → Int32} (h : JX B c9 Z) : JX (B + 100) c9 Z := by
  obtain ⟨o, nh, n, cd, hJ⟩ := h
  have hJ0 := hJ
  obtain ⟨-, -, -, hT, h13⟩ := hJ
  exact ⟨o, nh, n, cd, hJ0.keep rfl rfl rfl rfl rfl hT h13⟩
theorem and31 (x : Int32) : ∃ k : Nat, k < 32 ∧ x &&& nI 31 = nI k := by
  refine ⟨x.toBitVec.toNat % 32, Nat.mod_lt _ (by decide), ?_⟩
  refine Int32.toBitVec_inj.mp (BitVec.eq_of_toNat_eq ?_)
  show (x.toBitVec &&& (nI 31).toBitVec).toNat = (nI (x.toBitVec.toNat % 32)).toBitVec.toNat
  have h1 : (nI 31).toBitVec.toNat = 2 ^ 5 - 1 := by decide
  have h2 : (nI (x.toBitVec.toNat % 32)).toBitVec.toNat = x.toBitVec.toNat % 32 := by
    show (BitVec.ofNat 32 (x.toBitVec.toNat % 32)).toNat = _
    rw [BitVec.toNat_ofNat]
    exact Nat.mod_eq_of_lt (Nat.lt_of_lt_of_le (Nat.mod_lt _ (by decide)) (by decide))
  rw [BitVec.toNat_and, h1, Nat.and_two_pow_sub_one_eq_mod, h2]
theorem sub4 {L i : Nat} (hL : L ≤ 2048) (hi : i ≤ 4096) : (nI L - nI 4 < nI i) ↔ L < i + 4 := by
  rw [Int32.lt_iff_toInt_lt, Int32.toInt_sub, nI_toInt (by omega), nI_toInt (by omega), nI_toInt (by omega), Int.bmod_eq_of_le (by omega) (by omega)]
  omega
theorem lt30_all : ∀ n : Fin 30, n.val = 0 ∨ n.val = 1 ∨ n.val = 2 ∨ n.val = 3 ∨ n.val = 4 ∨ n.val = 5 ∨ n.val = 6 ∨ n.val = 7 ∨ n.val = 8 ∨ n.val = 9 ∨ n.val = 10 ∨ n.val = 11 ∨ n.val = 12 ∨ n.val = 13 ∨ n.val = 14 ∨ n.val = 15 ∨ n.val = 16 ∨ n.val = 17 ∨ n.val = 18 ∨ n.val = 19 ∨ n.val = 20 ∨ n.val = 21 ∨ n.val = 22 ∨ n.val = 23 ∨ n.val = 24 ∨ n.val = 25 ∨ n.val = 26 ∨ n.val = 27 ∨ n.val = 28 ∨ n.val = 29 := by decide +kernel
theorem lt30 (k : Nat) (h : k < 30) : k = 0 ∨ k = 1 ∨ k = 2 ∨ k = 3 ∨ k = 4 ∨ k = 5 ∨ k = 6 ∨ k = 7 ∨ k = 8 ∨ k = 9 ∨ k = 10 ∨ k = 11 ∨ k = 12 ∨ k = 13 ∨ k = 14 ∨ k = 15 ∨ k = 16 ∨ k = 17 ∨ k = 18 ∨ k = 19 ∨ k = 20 ∨ k = 21 ∨ k = 22 ∨ k = 23 ∨ k = 24 ∨ k = 25 ∨ k = 26 ∨ k = 27 ∨ k = 28 ∨ k = 29 := lt30_all ⟨k, h⟩
theorem z0 : nOf 0 = 0 := by decide
theorem z9 : (0 : Int32) = nI (nOf 0) := by decide
theorem z1 : nOf 0 ≤ 8 := by decide
theorem z2 : nOf 0 ≠ 1 := by decide
theorem z3 : nOf 0 < 8 := by decide
theorem z4 : nOf 0 < 7 := by decide
theorem z_all : ∀ (m : Fin 20) (i : Fin 3), pHB 0 (nI i.val) = decide (iShr 0 (nI m.val) &&& nI 1 = nI 1) := by decide +kernel
theorem i8_0 (j : Nat) (h : 13 < j) : iZX8 2 j = 0 := by
  show upd (upd (upd (upd (upd (upd (upd (upd (upd (upd (fun _ => 0) 3 (nI 1)) 4 (nI 3)) 6 (-1)) 7 (-1)) 8 (-1)) 9 (-1)) 10 (-1)) 11 (-1)) 12 (-1)) 13 (-1) j = 0
  rw [upd_no (by omega), upd_no (by omega), upd_no (by omega), upd_no (by omega), upd_no (by omega), upd_no (by omega), upd_no (by omega), upd_no (by omega), upd_no (by omega), upd_no (by omega)]
/-- new objects: class and reference belong together -/
theorem RS_0 : RS iZX3 (iZX8 2) := by
  refine ⟨⟨rfl, rfl, rfl, rfl, rfl⟩, fun r hr => ?_, fun m hm => ?_, fun m k hm hk => ?_, fun k hk => ?_, fun k hk => ?_, fun m i hm hi => ?_, fun r hr => ?_, ?_⟩
  · rcases (show r = 0 ∨ r = 1 ∨ r = 2 ∨ r = 3 ∨ r = 4 ∨ r = 5 by omega) with rfl | rfl | rfl | rfl | rfl | rfl <;> exact ⟨rfl, rfl, rfl, rfl⟩
  · have e : ∀ j : Nat, 13 < j → iZX8 2 j = 0 := i8_0
    rw [e _ (by omega), e _ (by omega), e _ (by omega)]
    exact ⟨rfl, rfl, rfl⟩
  · have h0 : nOf (iZX3 6 m) = 0 := by show nOf 0 = 0; decide
    omega
  · rcases (show k = 0 ∨ k = 1 ∨ k = 2 ∨ k = 3 ∨ k = 4 ∨ k = 5 by omega) with rfl | rfl | rfl | rfl | rfl | rfl <;> rfl
  · rcases (show k = 0 ∨ k = 1 by omega) with rfl | rfl <;> rfl
  · rw [i8_0 _ (by omega)]
    exact z_all ⟨m, hm⟩ ⟨i, hi⟩
  · rw [i8_0 _ (by omega)]
    exact h0_all ⟨r, hr⟩
  · decide +kernel
theorem SI_0 (B : Nat) : SI B iZX3 := by
  refine ⟨⟨by decide, ?_⟩, ⟨by decide, by decide⟩, ⟨by decide, by decide⟩, ⟨by decide, by decide⟩, ⟨by decide, by decide⟩, ⟨by decide, by decide⟩, fun m hm => ⟨⟨z9, z1, z2⟩, ⟨z9, z3⟩, fun k hk => ?_⟩, fun r hr => ⟨⟨z9, z4⟩, ⟨z9, ?_⟩, z9, ?_⟩, fun m o hm ho hmo h0 => ?_⟩
  · show nOf 0 ≤ B
    rw [z0]
    exact Nat.zero_le _
  · have hk : k < nOf 0 := hk
    rw [z0] at hk
    omega
  · show nOf 0 ≤ B
    rw [z0]
    exact Nat.zero_le _
  · show nOf 0 ≤ B
    rw [z0]
    exact Nat.zero_le _
  · have h0 : 0 < nOf 0 := h0
    rw [z0] at h0
    omega
theorem JX_0 : JX 0 cc0 iZX8 := ⟨0, 0, 0, fun _ => 0, ⟨RS_0, SI_0 0⟩, ⟨rfl, rfl, by decide, by decide, rfl, fun k hk => absurd hk (Nat.not_lt_zero k)⟩, Or.inl ⟨rfl, rfl⟩, ⟨rfl, rfl, by decide, fun i hi => absurd hi (Nat.not_lt_zero i), fun i hi => absurd hi (Nat.not_lt_zero i), fun i hi => absurd hi (Nat.not_lt_zero i)⟩, by decide, by decide⟩
theorem lt9_all : ∀ n : Fin 9, n.val = 0 ∨ n.val = 1 ∨ n.val = 2 ∨ n.val = 3 ∨ n.val = 4 ∨ n.val = 5 ∨ n.val = 6 ∨ n.val = 7 ∨ n.val = 8 := by decide +kernel
theorem lt9 (k : Nat) (h : k < 9) : k = 0 ∨ k = 1 ∨ k = 2 ∨ k = 3 ∨ k = 4 ∨ k = 5 ∨ k = 6 ∨ k = 7 ∨ k = 8 := lt9_all ⟨k, h⟩
theorem lt16_all : ∀ n : Fin 16, n.val = 0 ∨ n.val = 1 ∨ n.val = 2 ∨ n.val = 3 ∨ n.val = 4 ∨ n.val = 5 ∨ n.val = 6 ∨ n.val = 7 ∨ n.val = 8 ∨ n.val = 9 ∨ n.val = 10 ∨ n.val = 11 ∨ n.val = 12 ∨ n.val = 13 ∨ n.val = 14 ∨ n.val = 15 := by decide +kernel
theorem lt16 (k : Nat) (h : k < 16) : k = 0 ∨ k = 1 ∨ k = 2 ∨ k = 3 ∨ k = 4 ∨ k = 5 ∨ k = 6 ∨ k = 7 ∨ k = 8 ∨ k = 9 ∨ k = 10 ∨ k = 11 ∨ k = 12 ∨ k = 13 ∨ k = 14 ∨ k = 15 := lt16_all ⟨k, h⟩
section LOOP
variable {p : Program} {l : Launch} {e : Env} {s : State} {m : MethodId} {below : List Frame} {meth : Method} {c : Code} {b L : Nat} {xs : Nat → Int32} {G : va_G} {T : Nat → ClassId} {a : CA} {ao : Nat} {q8 : Nat → Nat}
set_option maxHeartbeats 8000000 in
set_option maxRecDepth 100000 in
theorem law_loop (E : lwE l p s m c b L xs G T) (hL : L ≤ 2048) (hr : meth.sig.returnType = ret) (hlocks : meth.locks = false) : ∀ (n t : Nat) (H : Heap) (locs : List Loc) (ls : Array Slot), 4 * t ≤ L → L + 4 ≤ 4 * t + 4 * n → lwS s G T a ao q8 (100 * t) H locs → lv_has ls 9 (lwV b a ao q8 (4 * t)) → W p l e room_1 s m #[Value.ref b] below meth c H locs (125 + t) (5938 + 6 * t) (lw_Z below #[Value.ref b] s) (F0 m 23 ls []) := by
  intro n
  induction n with
  | zero =>
    intro t H locs ls h1 h2
    exact absurd h2 (by omega)
  | succ n ih =>
    intro t H locs ls h1 h2 hW hl
    have E0 := E
    obtain ⟨hx, hb, hml, hown, hts, hX, hbl, hst, hK, hE, hgC, hgN⟩ := E0
    have hW0 := hW
    obtain ⟨f, c9, Z, g, hP, hD, hS, hJ⟩ := hW0
    have hbA : ¬ (fun q : Nat => s.heap.size ≤ q) b := Nat.not_le.mpr hbl
    have hl9 := hl
    have hl : lv_has ls 9 [(0, .ref b), (1, .ref (a.1 0)), (2, .ref (q8 0)), (3, .ref ao), (4, .int (nI (4 * t)))] := hl
    refine lv_iload hx hb dL_law_23 (lv_at hl 4 rfl) ?_
    refine lv_aload_n hx hb dL_law_25 rfl (lv_at hl 0 rfl) ?_
    refine va_slen hx hb hX hbl hbA hS dL_law_26 ?_
    refine n_iconst hx hb 4 dL_law_27 (by decide) ?_
    refine lv_isub hx hb dL_law_28 ?_
    refine lv_icmp_gt (tgt := 1686) hx hb dL_law_29 (by decide) (fun _ => ?_) (fun h9 => ?_)
    · refine lv_iconst (v := 1) hx hb dL_law_1686 (by decide) ?_
      refine va_forget (fun q hq => hS.2.2 q hq) ?_
      refine W.widen (k := 601024) (n := 7293033) (by omega) (by omega) ?_
      exact lw_ret (s := s) (d0 := s.drawn) (Drawn.sameBut.refl s.drawn lw_cs) hx hb hr hlocks dL_law_1687
    · have h9 : ¬ nI L - nI 4 < nI (4 * t) := h9
      rw [sub4 hL (by omega)] at h9
      have hi : 4 * t + 3 < L := by omega
      have hB : 100 * t + 100 < 2 ^ 27 := by omega
      have hcs : 125 + t + 1 ≤ 601024 ∧ 5938 + 6 * t + 6 ≤ 7293033 := ⟨by omega, by omega⟩
      have kk : ∀ (H : Heap) (locs : List Loc) (ls : Array Slot), lwS s G T a ao q8 (100 * t + 100) H locs → lv_has ls 9 (lwV b a ao q8 (4 * t)) → W p l e room_1 s m #[Value.ref b] below meth c H locs (125 + t + 1) (5938 + 6 * t + 6) (lw_Z below #[Value.ref b] s) (F0 m 1680 ls []) := by
        intro H locs ls hW hl
        have hl : lv_has ls 9 [(0, .ref b), (1, .ref (a.1 0)), (2, .ref (q8 0)), (3, .ref ao), (4, .int (nI (4 * t)))] := hl
        refine lv_iinc (v := nI (4 * t + 4)) (lv' := [(4, .int (nI (4 * t + 4))), (0, .ref b), (1, .ref (a.1 0)), (2, .ref (q8 0)), (3, .ref ao)]) hx hb dL_law_1680 hl (k := 4) rfl (n_inc (4 * t) 4 rfl) (by decide) rfl (fun ls hl => ?_)
        refine lv_goto (tgt := 23) hx hb dL_law_1683 (by decide) ?_
        have hl5 : lv_has ls 9 (lwV b a ao q8 (4 * t + 4)) := lv_sub hl [1, 2, 3, 4, 0] rfl
        have h5 := ih (t + 1) H locs ls (by omega) (by omega) (by rw [show 100 * (t + 1) = 100 * t + 100 by omega]; exact hW) (by rw [show 4 * (t + 1) = 4 * t + 4 by omega]; exact hl5)
        rw [show 125 + (t + 1) = 125 + t + 1 by omega, show 5938 + 6 * (t + 1) = 5938 + 6 * t + 6 by omega] at h5
        exact h5
      refine lv_aload_n hx hb dL_law_32 rfl (lv_at hl 0 rfl) ?_
      refine lv_iload hx hb dL_law_33 (lv_at hl 4 rfl) ?_
      refine va_sld hx hb hX hbl hbA hS (vp_in_nI (show 4 * t < L by omega) (by omega)) dL_law_35 ?_
      refine lv_bipush (v := nI 31) hx hb dL_law_36 (by decide) ?_
      refine lv_iand hx hb dL_law_38 ?_
      obtain ⟨k, hk, ek⟩ := and31 (xs (nI (4 * t)).toNatClampNeg)
      refine n_top (y := nI k) ek ?_
      by_cases h30 : k < 30
      · rcases lt30 k h30 with rfl | rfl | rfl | rfl | rfl | rfl | rfl | rfl | rfl | rfl | rfl | rfl | rfl | rfl | rfl | rfl | rfl | rfl | rfl | rfl | rfl | rfl | rfl | rfl | rfl | rfl | rfl | rfl | rfl | rfl
        · refine n_tab (a := 0) (tgt := 172) hx hb (by decide) dL_law_39 (by decide) (by decide) rfl (by decide) ?_
          exact lc_teach E hi hL hB hcs hW hl9 kk
        · refine n_tab (a := 1) (tgt := 228) hx hb (by decide) dL_law_39 (by decide) (by decide) rfl (by decide) ?_
          exact lc_forget E hi hL hB hcs hW hl9 kk
        · refine n_tab (a := 2) (tgt := 284) hx hb (by decide) dL_law_39 (by decide) (by decide) rfl (by decide) ?_
          exact lc_key E hi hL hB hcs hW hl9 kk
        · refine n_tab (a := 3) (tgt := 340) hx hb (by decide) dL_law_39 (by decide) (by decide) rfl (by decide) ?_
          exact lc_tell E hi hL hB hcs hW hl9 kk
        · refine n_tab (a := 4) (tgt := 396) hx hb (by decide) dL_law_39 (by decide) (by decide) rfl (by decide) ?_
          exact lc_lookout E hi hL hB hcs hW hl9 kk
        · refine n_tab (a := 5) (tgt := 480) hx hb (by decide) dL_law_39 (by decide) (by decide) rfl (by decide) ?_
          exact lc_ban E hi hL hB hcs hW hl9 kk
        · refine n_tab (a := 6) (tgt := 548) hx hb (by decide) dL_law_39 (by decide) (by decide) rfl (by decide) ?_
          exact lc_bell E hi hL hB hcs hW hl9 kk
        · refine n_tab (a := 7) (tgt := 561) hx hb (by decide) dL_law_39 (by decide) (by decide) rfl (by decide) ?_
          exact lc_set E hi hL hB hcs hW hl9 kk
        · refine n_tab (a := 8) (tgt := 629) hx hb (by decide) dL_law_39 (by decide) (by decide) rfl (by decide) ?_
          exact lc_whistle E hi hL hB hcs hW hl9 kk
        · refine n_tab (a := 9) (tgt := 697) hx hb (by decide) dL_law_39 (by decide) (by decide) rfl (by decide) ?_
          exact lc_append E hi hL hB hcs hW hl9 kk
        · refine n_tab (a := 10) (tgt := 753) hx hb (by decide) dL_law_39 (by decide) (by decide) rfl (by decide) ?_
          exact lc_clearBuffer E hi hL hB hcs hW hl9 kk
        · refine n_tab (a := 11) (tgt := 766) hx hb (by decide) dL_law_39 (by decide) (by decide) rfl (by decide) ?_
          exact lc_firstError E hi hL hB hcs hW hl9 kk
        · refine n_tab (a := 12) (tgt := 779) hx hb (by decide) dL_law_39 (by decide) (by decide) rfl (by decide) ?_
          exact lc_tuneError E hi hL hB hcs hW hl9 kk
        · refine n_tab (a := 13) (tgt := 792) hx hb (by decide) dL_law_39 (by decide) (by decide) rfl (by decide) ?_
          exact lc_play E hi hL hB hcs hW hl9 kk
        · refine n_tab (a := 14) (tgt := 836) hx hb (by decide) dL_law_39 (by decide) (by decide) rfl (by decide) ?_
          exact lc_stopped E hi hL hB hcs hW hl9 kk
        · refine n_tab (a := 15) (tgt := 892) hx hb (by decide) dL_law_39 (by decide) (by decide) rfl (by decide) ?_
          exact lc_undo E hi hL hB hcs hW hl9 kk
        · refine n_tab (a := 16) (tgt := 936) hx hb (by decide) dL_law_39 (by decide) (by decide) rfl (by decide) ?_
          exact lc_keep E hi hL hB hcs hW hl9 kk
        · refine n_tab (a := 17) (tgt := 949) hx hb (by decide) dL_law_39 (by decide) (by decide) rfl (by decide) ?_
          exact lc_restore E hi hL hB hcs hW hl9 kk
        · refine n_tab (a := 18) (tgt := 993) hx hb (by decide) dL_law_39 (by decide) (by decide) rfl (by decide) ?_
          exact lc_message E hi hL hB hcs hW hl9 kk
        · refine n_tab (a := 19) (tgt := 1061) hx hb (by decide) dL_law_39 (by decide) (by decide) rfl (by decide) ?_
          exact lc_note E hi hL hB hcs hW hl9 kk
        · refine n_tab (a := 20) (tgt := 1129) hx hb (by decide) dL_law_39 (by decide) (by decide) rfl (by decide) ?_
          exact lc_room E hi hL hB hcs hW hl9 kk
        · refine n_tab (a := 21) (tgt := 1197) hx hb (by decide) dL_law_39 (by decide) (by decide) rfl (by decide) ?_
          exact lc_latest E hi hL hB hcs hW hl9 kk
        · refine n_tab (a := 22) (tgt := 1253) hx hb (by decide) dL_law_39 (by decide) (by decide) rfl (by decide) ?_
          exact lc_count E hi hL hB hcs hW hl9 kk
        · refine n_tab (a := 23) (tgt := 1309) hx hb (by decide) dL_law_39 (by decide) (by decide) rfl (by decide) ?_
          exact lc_decode E hi hL hB hcs hW hl9 kk
        · refine n_tab (a := 24) (tgt := 1377) hx hb (by decide) dL_law_39 (by decide) (by decide) rfl (by decide) ?_
          exact lc_keyOf E hi hL hB hcs hW hl9 kk
        · refine n_tab (a := 25) (tgt := 1421) hx hb (by decide) dL_law_39 (by decide) (by decide) rfl (by decide) ?_
          exact lc_whyNot E hi hL hB hcs hW hl9 kk
        · refine n_tab (a := 26) (tgt := 1489) hx hb (by decide) dL_law_39 (by decide) (by decide) rfl (by decide) ?_
          exact lc_ifWhistled E hi hL hB hcs hW hl9 kk
        · refine n_tab (a := 27) (tgt := 1569) hx hb (by decide) dL_law_39 (by decide) (by decide) rfl (by decide) ?_
          exact lc_bestRoom E hi hL hB hcs hW hl9 kk
        · refine n_tab (a := 28) (tgt := 1625) hx hb (by decide) dL_law_39 (by decide) (by decide) rfl (by decide) ?_
          exact lc_understoodShare E hi hL hB hcs hW hl9 kk
        · refine n_tab (a := 29) (tgt := 1666) hx hb (by decide) dL_law_39 (by decide) (by decide) rfl (by decide) ?_
          exact lc_digest E hi hL hB hcs hW hl9 kk
      · rcases (show k = 30 ∨ k = 31 by omega) with rfl | rfl
        · refine n_tabO (tgt := 1680) hx hb dL_law_39 0 30 (Or.inr (by rw [nI_toInt (by decide)]; decide)) rfl rfl (by decide) ?_
          exact W.widen (by omega) (by omega) (kk _ _ _ ⟨f, c9, Z, g, hP, hD, hS, hJ.mono⟩ hl9)
        · refine n_tabO (tgt := 1680) hx hb dL_law_39 0 30 (Or.inr (by rw [nI_toInt (by decide)]; decide)) rfl rfl (by decide) ?_
          exact W.widen (by omega) (by omega) (kk _ _ _ ⟨f, c9, Z, g, hP, hD, hS, hJ.mono⟩ hl9)
end LOOP
