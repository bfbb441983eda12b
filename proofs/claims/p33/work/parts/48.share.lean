/-! WhistleTunes: share, the sums of text, message, room (printed by wip/p33/s47.py) -/
/-! WhistleTunes: share and digest (printed by wip/p33/s47.py) -/
def cShare (k a : Int32) : UInt64 := if 0 < a then FP.ddiv (FP.i2d k) (FP.i2d a) else FP.dconst1
def cSh (S : Nat → Nat → Int32) : UInt64 := cShare (pSm (S 13) 6) (pSm (S 13) 6 + pSm (S 14) 6)



set_option maxHeartbeats 4000000 in
set_option maxRecDepth 100000 in
theorem c_X7_understoodShare (l : Launch) (G : va_G) (T : Nat → ClassId) (sz : Nat) (w : Nat → Nat) (q : Nat → Nat) (qz : Nat → Nat) (h : Nat → Nat) (t : Nat → Nat) (gr : Nat → Nat) (u : Nat → Nat) (tr : Nat → Nat) (oc : Nat → Nat) (Sw : Nat → Nat → Int32) (S : Nat → Nat → Int32) : RWd l yX7_understoodShare wsX7_understoodShare 1 0 0 G T sz (oX7 w q qz h t gr u tr oc Sw ++ oX3 T q S) [.ref (w 0)] (cSh S) (oX7 w q qz h t gr u tr oc Sw ++ oX3 T q S) := by
  refine Met.ofW (cc := cX7_understoodShare) (maxL := 3) (ret := (some .double)) (by decide) rfl ?_
  intro p e s m args below meth c s₁ B hml hv
  obtain ⟨ha, hsz, hP, hK, hD0, hE0⟩ := hv
  have hx := B.exec
  have hb := B.bytes
  have hr := B.returns
  have hlocks := B.notSynchronized
  have hts := atoms_spec (ws := wsX7_understoodShare) B.pre
  have hown : s.vm.findClass RX7 = some m.cls := findClass_of_methodNamed B.named
  have cx : CallFix p m c cX7_understoodShare 3 s args wsX7_understoodShare RX7 := ⟨hx, hb, hml, hown, hts⟩
  subst hsz
  have hD := hD0.self (sz := s.heap.size)
  generalize hAe : va_A (oX7 w q qz h t gr u tr oc Sw ++ oX3 T q S) s.heap.size = A at hD hE0 ⊢
  have hE : gE A s s.heap := hE0
  have hA : ∀ q : Nat, s.heap.size ≤ q → A q := fun q h => by rw [← hAe]; exact Or.inr h
  have hS : va_S A s.heap s.heap [] := va_S.rf
  refine w_entry ha (Nat.le_of_ble_eq_true rfl) (fun ls hl => ?_)
  refine w_q (fun Q0 hQ => ?_)
  have lk10 := hts (.fieldLink RX7 10 "WhistleTunes" "school" "LWhistleTunes$School;") (by decide +kernel)
  have hinX7 : ∀ w ∈ wsX70, w ∈ wsX7_understoodShare := by decide +kernel
  have lk241 := hts (.fieldLink RX7 241 "WhistleTunes$School" "roomUnderstood" "[I") (by decide +kernel)
  have hinX3 : ∀ w ∈ wsX30, w ∈ wsX7_understoodShare := by decide +kernel
  have lk244 := hts (.fieldLink RX7 244 "WhistleTunes$School" "roomNoise" "[I") (by decide +kernel)
  have hl : lv_has ls 3 [(0, .ref (w 0))] := hl
  have hP : va_P G vwCl [(w 0, .inr (7, [.ref (q 0), .ref (qz 0), .ref (h 0), .ref (t 0), .ref (gr 0), .ref (u 0), .ref (tr 0), .ref (oc 0), .int (Sw 0 8)])), (q 0, .inr (3, [.int (S 0 0), .int (S 0 1), .int (S 0 2), .int (S 0 3), .ref (q 5), .ref (q 6), .ref (q 7), .ref (q 8), .ref (q 9), .ref (q 10), .ref (q 11), .ref (q 12), .ref (q 13), .ref (q 14), .ref (q 15), .ref (q 16)])), (q 5, .inl (T 0, 2, .inl (S 5))), (q 6, .inl (T 0, 20, .inl (S 6))), (q 7, .inl (T 0, 160, .inl (S 7))), (q 8, .inl (T 0, 20, .inl (S 8))), (q 9, .inl (T 0, 20, .inl (S 9))), (q 10, .inl (T 0, 20, .inl (S 10))), (q 11, .inl (T 0, 6, .inl (S 11))), (q 12, .inl (T 0, 6, .inl (S 12))), (q 13, .inl (T 0, 6, .inl (S 13))), (q 14, .inl (T 0, 6, .inl (S 14))), (q 15, .inl (T 0, 6, .inl (S 15))), (q 16, .inl (T 0, 2, .inl (S 16)))] s.heap := hP
  have hD : va_D A [(w 0, .inr (7, [.ref (q 0), .ref (qz 0), .ref (h 0), .ref (t 0), .ref (gr 0), .ref (u 0), .ref (tr 0), .ref (oc 0), .int (Sw 0 8)])), (q 0, .inr (3, [.int (S 0 0), .int (S 0 1), .int (S 0 2), .int (S 0 3), .ref (q 5), .ref (q 6), .ref (q 7), .ref (q 8), .ref (q 9), .ref (q 10), .ref (q 11), .ref (q 12), .ref (q 13), .ref (q 14), .ref (q 15), .ref (q 16)])), (q 5, .inl (T 0, 2, .inl (S 5))), (q 6, .inl (T 0, 20, .inl (S 6))), (q 7, .inl (T 0, 160, .inl (S 7))), (q 8, .inl (T 0, 20, .inl (S 8))), (q 9, .inl (T 0, 20, .inl (S 9))), (q 10, .inl (T 0, 20, .inl (S 10))), (q 11, .inl (T 0, 6, .inl (S 11))), (q 12, .inl (T 0, 6, .inl (S 12))), (q 13, .inl (T 0, 6, .inl (S 13))), (q 14, .inl (T 0, 6, .inl (S 14))), (q 15, .inl (T 0, 6, .inl (S 15))), (q 16, .inl (T 0, 2, .inl (S 16)))] := hD
  skip
  refine w_h (fun H locs hHe hLe => ?_)
  have hP : va_P G vwCl [(w 0, .inr (7, [.ref (q 0), .ref (qz 0), .ref (h 0), .ref (t 0), .ref (gr 0), .ref (u 0), .ref (tr 0), .ref (oc 0), .int (Sw 0 8)])), (q 0, .inr (3, [.int (S 0 0), .int (S 0 1), .int (S 0 2), .int (S 0 3), .ref (q 5), .ref (q 6), .ref (q 7), .ref (q 8), .ref (q 9), .ref (q 10), .ref (q 11), .ref (q 12), .ref (q 13), .ref (q 14), .ref (q 15), .ref (q 16)])), (q 5, .inl (T 0, 2, .inl (S 5))), (q 6, .inl (T 0, 20, .inl (S 6))), (q 7, .inl (T 0, 160, .inl (S 7))), (q 8, .inl (T 0, 20, .inl (S 8))), (q 9, .inl (T 0, 20, .inl (S 9))), (q 10, .inl (T 0, 20, .inl (S 10))), (q 11, .inl (T 0, 6, .inl (S 11))), (q 12, .inl (T 0, 6, .inl (S 12))), (q 13, .inl (T 0, 6, .inl (S 13))), (q 14, .inl (T 0, 6, .inl (S 14))), (q 15, .inl (T 0, 6, .inl (S 15))), (q 16, .inl (T 0, 2, .inl (S 16)))] H := by rw [hHe]; exact hP
  have hS : va_S A s.heap H locs := by rw [hHe, hLe]; exact hS
  refine lv_aload_n hx hb dX7_understoodShare_0 rfl (lv_at hl 0 rfl) ?_
  refine va_get (D := G) (ci := 7) (v := .ref (q 0)) (C := RX7) (T := TX7) (N := 9) hx hb hts hinX7 hown hK hP 0 rfl rfl 0 (by decide) lk10 (fun _ h9 => h9) rfl dX7_understoodShare_1 ?_
  refine va_get (D := G) (ci := 3) (v := .ref (q 13)) (C := RX3) (T := TX3) (N := 16) hx hb hts hinX3 hown hK hP 1 rfl rfl 12 (by decide) lk241 (fun _ h9 => h9) rfl dX7_understoodShare_4 ?_
  refine k_roS (As := [.ref (q 13)]) (rest := []) (wc := [(q 13, .inl (T 0, 6, .inl (S 13)))]) (d := 0) (v := pSm (S 13) 6) cx (c_X7_sumOf l G T A (q 13) (S 13) 6 (by decide)) (va_cwS 1 hts gX7_understoodShare_X7_sumOf rfl rfl rfl (by decide +kernel) ⟨Nat.le_of_ble_eq_true rfl, Nat.le_of_ble_eq_true rfl⟩) (hP.sub (ws' := [(q 13, .inl (T 0, 6, .inl (S 13)))]) [10] rfl) hK (hE.kept hS.2.1) rfl hl.1 rfl (Nat.le_of_ble_eq_true rfl) dX7_understoodShare_7 ⟨Nat.le_of_ble_eq_true rfl, Nat.le_of_ble_eq_true rfl⟩ ?_
  refine lv_istore_n (lv' := [(1, .int (pSm (S 13) 6)), (0, .ref (w 0))]) hx hb dX7_understoodShare_10 rfl hl (by decide) rfl (fun ls hl => ?_)
  refine lv_iload_n hx hb dX7_understoodShare_11 rfl (lv_at hl 0 rfl) ?_
  refine lv_aload_n hx hb dX7_understoodShare_12 rfl (lv_at hl 1 rfl) ?_
  refine va_get (D := G) (ci := 7) (v := .ref (q 0)) (C := RX7) (T := TX7) (N := 9) hx hb hts hinX7 hown hK hP 0 rfl rfl 0 (by decide) lk10 (fun _ h9 => h9) rfl dX7_understoodShare_13 ?_
  refine va_get (D := G) (ci := 3) (v := .ref (q 14)) (C := RX3) (T := TX3) (N := 16) hx hb hts hinX3 hown hK hP 1 rfl rfl 13 (by decide) lk244 (fun _ h9 => h9) rfl dX7_understoodShare_16 ?_
  refine k_roS (As := [.ref (q 14)]) (rest := [.int (pSm (S 13) 6)]) (wc := [(q 14, .inl (T 0, 6, .inl (S 14)))]) (d := 0) (v := pSm (S 14) 6) cx (c_X7_sumOf l G T A (q 14) (S 14) 6 (by decide)) (va_cwS 1 hts gX7_understoodShare_X7_sumOf rfl rfl rfl (by decide +kernel) ⟨Nat.le_of_ble_eq_true rfl, Nat.le_of_ble_eq_true rfl⟩) (hP.sub (ws' := [(q 14, .inl (T 0, 6, .inl (S 14)))]) [11] rfl) hK (hE.kept hS.2.1) rfl hl.1 rfl (Nat.le_of_ble_eq_true rfl) dX7_understoodShare_19 ⟨Nat.le_of_ble_eq_true rfl, Nat.le_of_ble_eq_true rfl⟩ ?_
  refine lv_iadd hx hb dX7_understoodShare_22 ?_
  refine lv_istore_n (lv' := [(2, .int ((pSm (S 13) 6) + (pSm (S 14) 6))), (1, .int (pSm (S 13) 6)), (0, .ref (w 0))]) hx hb dX7_understoodShare_23 rfl hl (by decide) rfl (fun ls hl => ?_)
  refine lv_iload_n hx hb dX7_understoodShare_24 rfl (lv_at hl 0 rfl) ?_
  refine lv_if_gt (tgt := 32) hx hb dX7_understoodShare_25 (by decide) (fun c_1 => ?_) (fun c_2 => ?_)
  · skip
    refine lv_iload_n hx hb dX7_understoodShare_32 rfl (lv_at hl 1 rfl) ?_
    refine lv_i2d hx hb dX7_understoodShare_33 ?_
    refine lv_iload_n hx hb dX7_understoodShare_34 rfl (lv_at hl 0 rfl) ?_
    refine lv_i2d hx hb dX7_understoodShare_35 ?_
    refine lv_ddiv (x := FP.i2d (pSm (S 13) 6)) (y := FP.i2d ((pSm (S 13) 6) + (pSm (S 14) 6))) hx hb dX7_understoodShare_36 (ddiv_n64 _ _ (fun h9 => absurd c_1 (by rw [h9]; decide))) ?_
    subst hQ
    have hP9 : va_P G vwCl (oX7 w q qz h t gr u tr oc Sw ++ oX3 T q S) H := hP
    have hD9 : va_D A (oX7 w q qz h t gr u tr oc Sw ++ oX3 T q S) := hD
    exact e_rwd hx hb hr hlocks hS (by unfold cSh cShare; first | exact (if_pos c_1).symm | exact (if_neg c_1).symm) hP9 hD9 dX7_understoodShare_37
  · skip
    refine lv_dconst1 hx hb dX7_understoodShare_28 ?_
    refine lv_goto (tgt := 37) hx hb dX7_understoodShare_29 (by decide) ?_
    subst hQ
    have hP9 : va_P G vwCl (oX7 w q qz h t gr u tr oc Sw ++ oX3 T q S) H := hP
    have hD9 : va_D A (oX7 w q qz h t gr u tr oc Sw ++ oX3 T q S) := hD
    exact e_rwd hx hb hr hlocks hS (by unfold cSh cShare; first | exact (if_pos c_2).symm | exact (if_neg c_2).symm) hP9 hD9 dX7_understoodShare_37



