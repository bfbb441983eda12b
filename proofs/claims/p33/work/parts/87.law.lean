/-! the law's loop, and the numbers at its start -/
theorem z0 : nOf 0 = 0 := by decide
theorem z9 : (0 : Int32) = nI (nOf 0) := by decide
theorem z1 : nOf 0 ≤ 8 := by decide
theorem z2 : nOf 0 ≠ 1 := by decide
theorem z3 : nOf 0 < 8 := by decide
theorem z4 : nOf 0 < 7 := by decide
theorem z_all : ∀ (m : Fin 20) (i : Fin 3), pHB 0 (nI i.val) = decide (iShr 0 (nI m.val) &&& nI 1 = nI 1) := by decide +kernel
theorem SI_0 (B : Nat) : SI B iZX3 := by
  refine ⟨⟨by decide, ?_⟩, ⟨by decide, by decide⟩, ⟨by decide, by decide⟩, ⟨by decide, by decide⟩, ⟨by decide, by decide⟩, ⟨by decide, by decide⟩, fun m hm => ⟨⟨z9, z1, z2⟩, ⟨z9, z3⟩, fun k hk => ?_⟩, fun r hr => ⟨⟨z9, z4⟩, ⟨z9, ?_⟩, z9, ?_⟩, fun m o hm ho hmo h0 => ?_⟩
  · show nOf 0 ≤ B
    rw [z0]
    exact Nat.zero_le _
  · have hk : k < nOf 0 := hk
    rw [z0] at hk
    omega
  · show nOf 0 ≤ B
    rw [z0]
    exact Nat.zero_le _
  · show nOf 0 ≤ B
    rw [z0]
    exact Nat.zero_le _
  · have h0 : 0 < nOf 0 := h0
    rw [z0] at h0
    omega
def iLQ : Nat → Int32 := upd (upd (upd (upd (upd (upd (upd (upd (fun _ => 0) 3 (nI 1)) 4 (nI 3)) 6 (-1)) 7 (-1)) 8 (-1)) 9 (-1)) 10 (-1)) 11 (-1)
def iL0 : Nat → Int32 := fun _ => 0
def iLn : Nat → Nat := fun _ => 0
theorem RS_0 : RS iZX3 (stM iLQ iL0 iL0 iL0 iLn) := by
  refine ⟨⟨rfl, rfl, rfl, rfl, rfl⟩, fun r hr => ?_, fun m hm => ?_, fun m k hm hk => ?_, fun k hk => ?_, fun k hk => ?_, fun m i hm hi => ?_, fun r hr => ?_, ?_⟩
  · rcases (show r = 0 ∨ r = 1 ∨ r = 2 ∨ r = 3 ∨ r = 4 ∨ r = 5 by omega) with rfl | rfl | rfl | rfl | rfl | rfl <;> exact ⟨rfl, rfl, rfl, rfl⟩
  · rw [sm_0, sm_1, sm_2]
    exact ⟨(by decide +kernel : (0 : Int32) = nI (uMy 0)), rfl, rfl⟩
  · have hk : k < nOf 0 := hk
    rw [z0] at hk
    omega
  · rcases (show k = 0 ∨ k = 1 ∨ k = 2 ∨ k = 3 ∨ k = 4 ∨ k = 5 by omega) with rfl | rfl | rfl | rfl | rfl | rfl <;> rfl
  · rcases (show k = 0 ∨ k = 1 by omega) with rfl | rfl <;> rfl
  · rw [sm_b hi]
    exact z_all ⟨m, hm⟩ ⟨i, hi⟩
  · rw [Nat.add_assoc, sm_r (by omega)]
    exact h0_all ⟨r, hr⟩
  · decide +kernel
theorem JX_0 : JX 0 cc0 iLQ iL0 iL0 iL0 iLn := ⟨⟨SI_0 0, RS_0, fun _ _ => (by decide +kernel : (0 : Int32) = nI 0), fun _ _ => ⟨(by decide : (0 : Nat) < 167772160), fun _ => rfl⟩⟩, ⟨0, 0, rfl, rfl, by decide, by decide⟩, ⟨0, rfl, by decide⟩⟩
section LOOP
variable {p : Program} {l : Launch} {e : Env} {s : State} {m : MethodId} {below : List Frame} {meth : Method} {c : Code} {b L : Nat} {xs : Nat → Int32} {G : va_G} {T : Nat → ClassId} {a9 : CA} {aq at9 ar ab : Nat}
set_option maxHeartbeats 8000000 in
set_option maxRecDepth 100000 in
theorem law_loop (E : lwE l p s m c b L xs G T (fun q : Nat => s.heap.size ≤ q)) (hL : L ≤ 260) (hr : meth.sig.returnType = ret) (hlocks : meth.locks = false) : ∀ (n i : Nat) (H : Heap) (locs : List Loc) (ls : Array Slot) (c9 : CC) (fq ft fr fb : Nat → Int32) (tn : Nat → Nat), i + n = 50 → va_P G vwCl (lwW T aq at9 ar ab fq ft fr fb a9 c9) H → va_D (fun q : Nat => s.heap.size ≤ q) (lwW T aq at9 ar ab fq ft fr fb a9 c9) → va_S (fun q : Nat => s.heap.size ≤ q) s.heap H locs → JX i c9 fq ft fr fb tn → lv_has ls 16 [(0, .ref b), (1, .ref (a9.1 0)), (2, .ref aq), (3, .ref at9), (4, .ref ar), (5, .ref ab), (6, .int (nI i))] → W p l e room_1 s m #[Value.ref b] below meth c H locs (121 + 2 * i) (3819 + 12 * i) (lw_Z below #[Value.ref b] s) (F0 m 62 ls []) := by
  intro n
  induction n with
  | zero =>
    intro i H locs ls c9 fq ft fr fb tn h1 hP hD hS hJ hl
    have E0 := E
    obtain ⟨hx, hb, hml, hown, hts, hX, hbl, hbA, hA, hst, hK, hE, hgC, hgN⟩ := E0
    refine lv_iload hx hb dL_law_62 (lv_at hl 6 rfl) ?_
    refine lv_bipush (v := nI 50) hx hb dL_law_64 (by decide) ?_
    refine n_icmp_ge (a := i) (b := 50) (tgt := 579) hx hb (by omega) (by omega) dL_law_66 (by decide) (fun _ => ?_) (fun h9 => absurd h9 (by omega))
    refine lv_iconst (v := 1) hx hb dL_law_579 (by decide) ?_
    refine va_forget (fun q hq => hS.2.2 q hq) ?_
    refine W.widen (k := 600130) (n := 7301080) (by omega) (by omega) ?_
    exact lw_ret (s := s) (d0 := s.drawn) (Drawn.sameBut.refl s.drawn lw_cs) hx hb hr hlocks dL_law_580
  | succ n ih =>
    intro i H locs ls c9 fq ft fr fb tn h1 hP hD hS hJ hl
    have E0 := E
    obtain ⟨hx, hb, hml, hown, hts, hX, hbl, hbA, hA, hst, hK, hE, hgC, hgN⟩ := E0
    have cx : CallFix p m c cL_law 16 s #[Value.ref b] wsLw RL := ⟨hx, hb, hml, hown, hts⟩
    have hi : i < 50 := by omega
    have hB : 12 * (i + 2) < 2 ^ 31 := by omega
    have hcs : 121 + 2 * i + 2 ≤ 600130 ∧ 3819 + 12 * i + 12 ≤ 7301080 := ⟨by omega, by omega⟩
    refine lv_iload hx hb dL_law_62 (lv_at hl 6 rfl) ?_
    refine lv_bipush (v := nI 50) hx hb dL_law_64 (by decide) ?_
    refine n_icmp_ge (a := i) (b := 50) (tgt := 579) hx hb (by omega) (by omega) dL_law_66 (by decide) (fun h9 => absurd h9 (by omega)) (fun _ => ?_)
    refine lv_aload_n hx hb dL_law_69 rfl (lv_at hl 0 rfl) ?_
    refine n_iconst hx hb 2 dL_law_70 (by decide) ?_
    refine lv_iload hx hb dL_law_71 (lv_at hl 6 rfl) ?_
    refine n_imul (a := 2) (b := i) hx hb dL_law_73 ?_
    refine k_cell (k := 2 * i) (rest := []) cx hL (by omega) (va_cwS 2 hts hL_L_cell rfl rfl rfl (by decide +kernel) ⟨Nat.le_of_ble_eq_true rfl, Nat.le_of_ble_eq_true rfl⟩) hX hbl hbA hS hl.1 rfl (Nat.le_of_ble_eq_true rfl) dL_law_74 ⟨by show _ ≤ 600130; omega, by show _ ≤ 7301080; omega⟩ ?_
    refine lv_istore (lv' := [(7, .int (lCell xs L (2 * i))), (0, .ref b), (1, .ref (a9.1 0)), (2, .ref aq), (3, .ref at9), (4, .ref ar), (5, .ref ab), (6, .int (nI i))]) hx hb dL_law_77 hl (by decide) rfl (fun ls hl => ?_)
    refine lv_aload_n hx hb dL_law_79 rfl (lv_at hl 1 rfl) ?_
    refine n_iconst hx hb 2 dL_law_80 (by decide) ?_
    refine lv_iload hx hb dL_law_81 (lv_at hl 7 rfl) ?_
    refine n_imul (a := 2) (b := i) hx hb dL_law_83 ?_
    refine n_iconst hx hb 1 dL_law_84 (by decide) ?_
    refine n_iadd (a := 2 * i) (b := 1) hx hb dL_law_85 ?_
    refine k_cell (k := 2 * i + 1) (rest := []) cx hL (by omega) (va_cwS 2 hts hL_L_cell rfl rfl rfl (by decide +kernel) ⟨Nat.le_of_ble_eq_true rfl, Nat.le_of_ble_eq_true rfl⟩) hX hbl hbA hS hl.1 rfl (Nat.le_of_ble_eq_true rfl) dL_law_86 ⟨by show _ ≤ 600130; omega, by show _ ≤ 7301080; omega⟩ ?_
    refine lv_istore (lv' := [(8, .int (lCell xs L (2 * i + 1))), (7, .int (lCell xs L (2 * i))), (0, .ref b), (1, .ref (a9.1 0)), (2, .ref aq), (3, .ref at9), (4, .ref ar), (5, .ref ab), (6, .int (nI i))]) hx hb dL_law_89 hl (by decide) rfl (fun ls hl => ?_)
    refine law_1 (B := i) (tn := tn) E hi hB hcs c9 (lCell xs L (2 * i)) (lCell xs L (2 * i + 1)) hP hD hS hl (fun ls kd hkd hl => ?_)
    refine law_2 E hi hB hcs c9 hJ (lCell xs L (2 * i)) (lCell xs L (2 * i + 1)) hkd hP hD hS hl (fun H locs ls c9 tu hP hD hS hJ hTy htu hl => ?_)
    refine law_3 E hB hcs c9 hJ (lCell xs L (2 * i)) (lCell xs L (2 * i + 1)) (la_ok kd _ hkd) hTy htu hP hD hS hl (fun H locs ls c9 hP hD hS hJ hl => ?_)
    refine lv_iinc (v := nI (i + 1)) (lv' := [(6, .int (nI (i + 1))), (0, .ref b), (1, .ref (a9.1 0)), (2, .ref aq), (3, .ref at9), (4, .ref ar), (5, .ref ab)]) hx hb dL_law_573 hl (k := 6) rfl (n_inc i 1 rfl) (by decide) rfl (fun ls hl => ?_)
    refine lv_goto (tgt := 62) hx hb dL_law_576 (by decide) ?_
    have h5 := ih (i + 1) H locs ls c9 _ _ _ _ _ (by omega) hP hD hS hJ (lv_sub hl [1, 2, 3, 4, 5, 6, 0] rfl)
    rw [show 121 + 2 * (i + 1) = 121 + 2 * i + 2 by omega, show 3819 + 12 * (i + 1) = 3819 + 12 * i + 12 by omega] at h5
    exact h5
end LOOP
