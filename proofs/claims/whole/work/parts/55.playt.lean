/-! WhistleTunes.play that throws, over all that it has (printed by wip/whole/s57.py) -/
set_option maxHeartbeats 4000000 in
set_option maxRecDepth 100000 in
theorem c_X7_play_t (l : Launch) (hst : l.stackTraces = false) (G : va_G) (T : Nat → ClassId) (sz : Nat) (w : Nat → Nat) (q : Nat → Nat) (qz : Nat → Nat) (h : Nat → Nat) (qs : Nat → Nat → Nat) (t : Nat → Nat) (gr : Nat → Nat) (u : Nat → Nat) (tr : Nat → Nat) (oc : Nat → Nat) (Sw : Nat → Nat → Int32) (S : Nat → Nat → Int32) (Z : Nat → Nat → Int32) (Sh : Nat → Nat → Int32) (Hs : Nat → Nat → Nat → Int32) (X : Nat → Nat → Int32) (Gg : Nat → Nat → Int32) (U : Nat → Nat → Int32) (K : Nat → Nat → Int32) (O : Nat → Nat → Int32) (n : Nat) (cd : Nat → Nat) (hlen : X 0 1 = nI n) (hn60 : n ≤ 60) (hcd : ∀ i : Nat, i < n → X 1 i = nI (cd i)) (hc127 : ∀ i : Nat, i < n → cd i < 127) (hno : ¬ (n ≤ gEr cd n 1 true ∧ gMay (gS cd n 1 true (gEn cd n 1 true)).1 (gS cd n 1 true (gEn cd n 1 true)).2 = true)) : RX l yX7_play wsX7_play 14 G T sz (oC T (w, q, qz, h, qs, t, gr, u, tr, oc) (Sw, S, Z, Sh, Hs, X, Gg, U, K, O)) [.ref (w 0)] (.inr "java/lang/IllegalArgumentException") (oC T (w, q, qz, h, qs, t, gr, u, tr, oc) (Sw, S, Z, Sh, Hs, X, gGr Gg cd n 1 true, U, K, O)) := by
  refine vx_ofW (cc := cX7_play) (maxL := 5) (ret := (some .int)) (by decide) rfl ?_
  intro p e s m args below meth c s₁ B hml htab hv
  obtain ⟨ha, ⟨hsz, hP, hK, hD0, hE0⟩, hC⟩ := hv
  have hx := B.exec
  have hb := B.bytes
  have hr := B.returns
  have hlocks := B.notSynchronized
  have hts := atoms_spec (ws := wsX7_play) B.pre
  have hown : s.vm.findClass RX7 = some m.cls := findClass_of_methodNamed B.named
  have cx : CallFix p m c cX7_play 5 s args wsX7_play RX7 := ⟨hx, hb, hml, hown, hts⟩
  subst hsz
  have hD := hD0.self (sz := s.heap.size)
  generalize hAe : va_A (oC T (w, q, qz, h, qs, t, gr, u, tr, oc) (Sw, S, Z, Sh, Hs, X, Gg, U, K, O)) s.heap.size = A at hD hE0 ⊢
  have hE : gE A s s.heap := hE0
  have hA : ∀ q : Nat, s.heap.size ≤ q → A q := fun q h => by rw [← hAe]; exact Or.inr h
  have hS : va_S A s.heap s.heap [] := va_S.rf
  refine w_entry ha (Nat.le_of_ble_eq_true rfl) (fun ls hl => ?_)
  refine w_q (fun Q0 hQ => ?_)
  have lk36 := hts (.fieldLink RX7 36 "WhistleTunes" "grammar" "LWhistleTunes$Grammar;") (by decide +kernel)
  have hinX7 : ∀ w ∈ wsX70, w ∈ wsX7_play := by decide +kernel
  have lk29 := hts (.fieldLink RX7 29 "WhistleTunes" "text" "LWhistleTunes$Text;") (by decide +kernel)
  have lk177 := hts (.fieldLink RX7 177 "WhistleTunes$Text" "length" "I") (by decide +kernel)
  have hinX5 : ∀ w ∈ wsX50, w ∈ wsX7_play := by decide +kernel
  have hl : lv_has ls 5 [(0, .ref (w 0))] := hl
  have hP : va_P G vwCl (oC T (w, q, qz, h, qs, t, gr, u, tr, oc) (Sw, S, Z, Sh, Hs, X, Gg, U, K, O)) s.heap := hP
  have hD : va_D A (oC T (w, q, qz, h, qs, t, gr, u, tr, oc) (Sw, S, Z, Sh, Hs, X, Gg, U, K, O)) := hD
  skip
  have hge := gEr_le cd n 1 true
  refine w_h (fun H locs hHe hLe => ?_)
  have hP : va_P G vwCl (oC T (w, q, qz, h, qs, t, gr, u, tr, oc) (Sw, S, Z, Sh, Hs, X, Gg, U, K, O)) H := by rw [hHe]; exact hP
  have hS : va_S A s.heap H locs := by rw [hHe, hLe]; exact hS
  refine lv_aload_n hx hb dX7_play_0 rfl (lv_at hl 0 rfl) ?_
  refine va_get (D := G) (ci := 7) (v := .ref (gr 0)) (C := RX7) (T := TX7) (N := 9) hx hb hts hinX7 hown hK hP 0 rfl rfl 4 (by decide) lk36 (fun _ h9 => h9) rfl dX7_play_1 ?_
  refine lv_aload_n hx hb dX7_play_4 rfl (lv_at hl 0 rfl) ?_
  refine va_get (D := G) (ci := 7) (v := .ref (t 0)) (C := RX7) (T := TX7) (N := 9) hx hb hts hinX7 hown hK hP 0 rfl rfl 3 (by decide) lk29 (fun _ h9 => h9) rfl dX7_play_5 ?_
  refine k_rwV (As := [.ref (t 0)]) (rest := []) (wc := (oC T (w, q, qz, h, qs, t, gr, u, tr, oc) (Sw, S, Z, Sh, Hs, X, Gg, U, K, O))) (wr := []) (w1 := (oC T (w, q, qz, h, qs, t, gr, u, tr, oc) (Sw, S, Z, Sh, Hs, X, sc (sc (sc Gg 0 (nI (gS cd n 1 true (gEn cd n 1 true)).1)) 1 (nI (gS cd n 1 true (gEn cd n 1 true)).2)) 2 (bI true), U, K, O))) (d := 8) (mc := 0) (ms := 0) (v := nI (gEr cd n 1 true)) cx (w_X0_readEvening l G T H.size w q qz h qs t gr u tr oc Sw S Z Sh Hs X Gg U K O n cd hlen hn60 hcd hc127) (cwV 1 hts gX7_play_X0_readEvening rfl rfl rfl (by decide +kernel) ⟨Nat.le_of_ble_eq_true rfl, Nat.le_of_ble_eq_true rfl⟩) (kN_full hP hD hS hA hE hK) (va_recv hK hP (ci := 0) (q0 := 109) rfl rfl) rfl hl.1 rfl (Nat.le_of_ble_eq_true rfl) dX7_play_8 ⟨Nat.le_of_ble_eq_true rfl, Nat.le_of_ble_eq_true rfl⟩ (fun H locs hP hD hS hz => ?_)
  have hP : va_P G vwCl (oC T (w, q, qz, h, qs, t, gr, u, tr, oc) (Sw, S, Z, Sh, Hs, X, sc (sc (sc Gg 0 (nI (gS cd n 1 true (gEn cd n 1 true)).1)) 1 (nI (gS cd n 1 true (gEn cd n 1 true)).2)) 2 (bI true), U, K, O)) H := hP
  have hD : va_D A (oC T (w, q, qz, h, qs, t, gr, u, tr, oc) (Sw, S, Z, Sh, Hs, X, sc (sc (sc Gg 0 (nI (gS cd n 1 true (gEn cd n 1 true)).1)) 1 (nI (gS cd n 1 true (gEn cd n 1 true)).2)) 2 (bI true), U, K, O)) := hD
  refine lv_aload_n hx hb dX7_play_11 rfl (lv_at hl 0 rfl) ?_
  refine va_get (D := G) (ci := 7) (v := .ref (t 0)) (C := RX7) (T := TX7) (N := 9) hx hb hts hinX7 hown hK hP 0 rfl rfl 3 (by decide) lk29 (fun _ h9 => h9) rfl dX7_play_12 ?_
  refine va_get (D := G) (ci := 5) (v := .int (X 0 1)) (C := RX5) (T := TX5) (N := 2) hx hb hts hinX5 hown hK hP 107 rfl rfl 1 (by decide) lk177 (fun _ h9 => h9) rfl dX7_play_15 ?_
  refine n_top (y := nI n) hlen ?_
  refine n_icmp_lt (a := gEr cd n 1 true) (b := n) (tgt := 31) hx hb (by omega) (by omega) dX7_play_18 (by decide) (fun c_1 => ?_) (fun c_2 => ?_)
  · skip
    subst hQ
    have hP9 : va_P G vwCl (oC T (w, q, qz, h, qs, t, gr, u, tr, oc) (Sw, S, Z, Sh, Hs, X, gGr Gg cd n 1 true, U, K, O)) H := hP
    have hD9 : va_D A (oC T (w, q, qz, h, qs, t, gr, u, tr, oc) (Sw, S, Z, Sh, Hs, X, gGr Gg cd n 1 true, U, K, O)) := hD
    exact e_thr hx hb hst (own := RX7) (cls := "java/lang/IllegalArgumentException") "the buffer is not an evening" ["java/lang/RuntimeException", "java/lang/Exception"] (ik := 80) (is := 194) (ic := 84) hown (by decide +kernel) (by decide +kernel) (hts (.classLink RX7 80 "java/lang/IllegalArgumentException") (by decide +kernel)) (hts (.initialized "java/lang/IllegalArgumentException") (by decide +kernel)) (hE.2.1 (RX7, 194, "the buffer is not an evening") (by decide +kernel)) (xt_Z (is := 0) (ik := 0) (text := "") hC (by decide +kernel) (by decide +kernel) (fun w9 hw9 => hts w9 (List.mem_cons_of_mem _ (List.mem_append_right _ hw9)))) (by decide +kernel) hE hS (hl.1.trans hml.symm) dX7_play_31 dX7_play_34 dX7_play_35 dX7_play_37 dX7_play_40 htab ⟨by decide, Nat.le_of_ble_eq_true rfl, Nat.le_of_ble_eq_true rfl, Nat.le_of_ble_eq_true rfl⟩ hlocks ⟨rfl, rfl⟩ rfl hP9 hD9
  · skip
    obtain ⟨hg1, hg2⟩ := gS_le cd n (st := 1) (by decide) true (gEn cd n 1 true)
    refine lv_aload_n hx hb dX7_play_21 rfl (lv_at hl 0 rfl) ?_
    refine va_get (D := G) (ci := 7) (v := .ref (gr 0)) (C := RX7) (T := TX7) (N := 9) hx hb hts hinX7 hown hK hP 0 rfl rfl 4 (by decide) lk36 (fun _ h9 => h9) rfl dX7_play_22 ?_
    refine k_roV (As := []) (rest := []) (wc := oX0 T gr (sc (sc (sc Gg 0 (nI (gS cd n 1 true (gEn cd n 1 true)).1)) 1 (nI (gS cd n 1 true (gEn cd n 1 true)).2)) 2 (bI true))) (d := 0) (v := bI (gMay (gS cd n 1 true (gEn cd n 1 true)).1 (gS cd n 1 true (gEn cd n 1 true)).2)) cx (c_X0_mayEnd l G T A gr (sc (sc (sc Gg 0 (nI (gS cd n 1 true (gEn cd n 1 true)).1)) 1 (nI (gS cd n 1 true (gEn cd n 1 true)).2)) 2 (bI true)) (gS cd n 1 true (gEn cd n 1 true)).1 (gS cd n 1 true (gEn cd n 1 true)).2 rfl hg2 rfl hg1) (cwV 0 hts gX7_play_X0_mayEnd rfl rfl rfl (by decide +kernel) ⟨Nat.le_of_ble_eq_true rfl, Nat.le_of_ble_eq_true rfl⟩) (hP.sub (ws' := oX0 T gr (sc (sc (sc Gg 0 (nI (gS cd n 1 true (gEn cd n 1 true)).1)) 1 (nI (gS cd n 1 true (gEn cd n 1 true)).2)) 2 (bI true))) [109] rfl) hK (hE.kept hS.2.1) (va_recv hK hP (ci := 0) (q0 := 109) rfl rfl) rfl hl.1 rfl (Nat.le_of_ble_eq_true rfl) dX7_play_25 ⟨Nat.le_of_ble_eq_true rfl, Nat.le_of_ble_eq_true rfl⟩ ?_
    refine b_if_ne (b := gMay (gS cd n 1 true (gEn cd n 1 true)).1 (gS cd n 1 true (gEn cd n 1 true)).2) (tgt := 41) hx hb dX7_play_28 (by decide) (fun c_3 => by exfalso; exact absurd ⟨(by omega), c_3⟩ hno) (fun c_4 => ?_)
    subst hQ
    have hP9 : va_P G vwCl (oC T (w, q, qz, h, qs, t, gr, u, tr, oc) (Sw, S, Z, Sh, Hs, X, gGr Gg cd n 1 true, U, K, O)) H := hP
    have hD9 : va_D A (oC T (w, q, qz, h, qs, t, gr, u, tr, oc) (Sw, S, Z, Sh, Hs, X, gGr Gg cd n 1 true, U, K, O)) := hD
    exact e_thr hx hb hst (own := RX7) (cls := "java/lang/IllegalArgumentException") "the buffer is not an evening" ["java/lang/RuntimeException", "java/lang/Exception"] (ik := 80) (is := 194) (ic := 84) hown (by decide +kernel) (by decide +kernel) (hts (.classLink RX7 80 "java/lang/IllegalArgumentException") (by decide +kernel)) (hts (.initialized "java/lang/IllegalArgumentException") (by decide +kernel)) (hE.2.1 (RX7, 194, "the buffer is not an evening") (by decide +kernel)) (xt_Z (is := 0) (ik := 0) (text := "") hC (by decide +kernel) (by decide +kernel) (fun w9 hw9 => hts w9 (List.mem_cons_of_mem _ (List.mem_append_right _ hw9)))) (by decide +kernel) hE hS (hl.1.trans hml.symm) dX7_play_31 dX7_play_34 dX7_play_35 dX7_play_37 dX7_play_40 htab ⟨by decide, Nat.le_of_ble_eq_true rfl, Nat.le_of_ble_eq_true rfl, Nat.le_of_ble_eq_true rfl⟩ hlocks ⟨rfl, rfl⟩ rfl hP9 hD9
