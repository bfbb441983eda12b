/-! the law's looks at WhistleTunes beside its own numbers (printed by wip/p33/s62.py) -/
set_option maxHeartbeats 20000000 in
set_option maxRecDepth 100000 in
theorem c_L_isMessage (l : Launch) (G : va_G) (T : Nat → ClassId) (sz : Nat) (aq : Nat) (fq : Nat → Int32) (at9 : Nat) (ft : Nat → Int32) (ar : Nat) (fr : Nat → Int32) (ab : Nat) (fb : Nat → Int32) (tn : Nat → Nat) (w : Nat → Nat) (q : Nat → Nat) (qz : Nat → Nat) (h : Nat → Nat) (qs : Nat → Nat → Nat) (t : Nat → Nat) (gr : Nat → Nat) (u : Nat → Nat) (tr : Nat → Nat) (oc : Nat → Nat) (Sw : Nat → Nat → Int32) (S : Nat → Nat → Int32) (Z : Nat → Nat → Int32) (Sh : Nat → Nat → Int32) (Hs : Nat → Nat → Nat → Int32) (X : Nat → Nat → Int32) (Gg : Nat → Nat → Int32) (U : Nat → Nat → Int32) (K : Nat → Nat → Int32) (O : Nat → Nat → Int32) (mm : Nat) (htn : ∀ i : Nat, i < 20 → ft i = nI (tn i)) (htn9 : ∀ i : Nat, i < 20 → tn i < 167772160) (hm20 : mm < 20) (hq0 : pMsg S mm 0 = nI (uMy (tn mm))) (hq1 : pMsg S mm 1 = vWho fb mm) (hq2 : pMsg S mm 2 = ft (20 + mm)) (hq3 : pMsg S mm 3 = ft (40 + mm)) (hqb : (pBr S mm 6).1 = (vBe fq fr fb tn mm 6).1) (hqn : ∀ k : Nat, k < 8 → pNote S mm k = if k < uMy (tn mm) then nI (uNt (tn mm) k) else -1) (hzk : ∀ k : Nat, k < 6 → x6 (vBr fq fr fb k mm 1)) : RWi l yL_isMessage wsL_isMessage 7 0 0 G T sz ([(aq, .inl (T 0, 12, .inl fq)), (at9, .inl (T 0, 60, .inl ft)), (ar, .inl (T 0, 30, .inl fr)), (ab, .inl (T 0, 3, .inl fb))] ++ oC T (w, q, qz, h, qs, t, gr, u, tr, oc) (Sw, S, Z, Sh, Hs, X, Gg, U, K, O)) [.ref (w 0), .int (nI mm), .ref aq, .ref at9, .ref ar, .ref ab] (nI 1) ([(aq, .inl (T 0, 12, .inl fq)), (at9, .inl (T 0, 60, .inl ft)), (ar, .inl (T 0, 30, .inl fr)), (ab, .inl (T 0, 3, .inl fb))] ++ oC T (w, q, qz, h, qs, t, gr, u, tr, oc) (Sw, S, Z, Sh, Hs, X, Gg, U, K, pBrO O S mm 6)) := by
  refine Met.ofW (cc := cL_isMessage) (maxL := 12) (ret := (some .boolean)) (by decide) rfl ?_
  intro p e s m args below meth c s₁ B hml hv
  obtain ⟨ha, hsz, hP, hK, hD0, hE0⟩ := hv
  have hx := B.exec
  have hb := B.bytes
  have hr := B.returns
  have hlocks := B.notSynchronized
  have hts := atoms_spec (ws := wsL_isMessage) B.pre
  have hown : s.vm.findClass RL = some m.cls := findClass_of_methodNamed B.named
  have cx : CallFix p m c cL_isMessage 12 s args wsL_isMessage RL := ⟨hx, hb, hml, hown, hts⟩
  subst hsz
  have hD := hD0.self (sz := s.heap.size)
  generalize hAe : va_A ([(aq, .inl (T 0, 12, .inl fq)), (at9, .inl (T 0, 60, .inl ft)), (ar, .inl (T 0, 30, .inl fr)), (ab, .inl (T 0, 3, .inl fb))] ++ oC T (w, q, qz, h, qs, t, gr, u, tr, oc) (Sw, S, Z, Sh, Hs, X, Gg, U, K, O)) s.heap.size = A at hD hE0 ⊢
  have hE : gE A s s.heap := hE0
  have hA : ∀ q : Nat, s.heap.size ≤ q → A q := fun q h => by rw [← hAe]; exact Or.inr h
  have hS : va_S A s.heap s.heap [] := va_S.rf
  refine w_entry ha (Nat.le_of_ble_eq_true rfl) (fun ls hl => ?_)
  refine w_q (fun Q0 hQ => ?_)
  have hl : lv_has ls 12 [(0, .ref (w 0)), (1, .int (nI mm)), (2, .ref aq), (3, .ref at9), (4, .ref ar), (5, .ref ab)] := hl
  have hP : va_P G vwCl ([(aq, .inl (T 0, 12, .inl fq)), (at9, .inl (T 0, 60, .inl ft)), (ar, .inl (T 0, 30, .inl fr)), (ab, .inl (T 0, 3, .inl fb))] ++ oC T (w, q, qz, h, qs, t, gr, u, tr, oc) (Sw, S, Z, Sh, Hs, X, Gg, U, K, O)) s.heap := hP
  have hD : va_D A ([(aq, .inl (T 0, 12, .inl fq)), (at9, .inl (T 0, 60, .inl ft)), (ar, .inl (T 0, 30, .inl fr)), (ab, .inl (T 0, 3, .inl fb))] ++ oC T (w, q, qz, h, qs, t, gr, u, tr, oc) (Sw, S, Z, Sh, Hs, X, Gg, U, K, O)) := hD
  skip
  have htm := htn9 mm hm20
  have hmm9 := uMy_9 htm
  refine w_h (fun H locs hHe hLe => ?_)
  have hP : va_P G vwCl ([(aq, .inl (T 0, 12, .inl fq)), (at9, .inl (T 0, 60, .inl ft)), (ar, .inl (T 0, 30, .inl fr)), (ab, .inl (T 0, 3, .inl fb))] ++ oC T (w, q, qz, h, qs, t, gr, u, tr, oc) (Sw, S, Z, Sh, Hs, X, Gg, U, K, O)) H := by rw [hHe]; exact hP
  have hS : va_S A s.heap H locs := by rw [hHe, hLe]; exact hS
  refine lv_aload hx hb dL_isMessage_0 (lv_at hl 5 rfl) ?_
  refine n_iconst hx hb 0 dL_isMessage_2 (by decide) ?_
  refine n_iald hx hb hK hP 3 0 rfl rfl 0 (by decide) (by decide) dL_isMessage_3 ?_
  refine lv_iload_n hx hb dL_isMessage_4 rfl (lv_at hl 1 rfl) ?_
  refine x_ishr hx hb dL_isMessage_5 ?_
  refine n_iconst hx hb 1 dL_isMessage_6 (by decide) ?_
  refine lv_iand hx hb dL_isMessage_7 ?_
  refine n_iconst hx hb 2 dL_isMessage_8 (by decide) ?_
  refine lv_aload hx hb dL_isMessage_9 (lv_at hl 5 rfl) ?_
  refine n_iconst hx hb 1 dL_isMessage_11 (by decide) ?_
  refine n_iald hx hb hK hP 3 0 rfl rfl 1 (by decide) (by decide) dL_isMessage_12 ?_
  refine lv_iload_n hx hb dL_isMessage_13 rfl (lv_at hl 1 rfl) ?_
  refine x_ishr hx hb dL_isMessage_14 ?_
  refine n_iconst hx hb 1 dL_isMessage_15 (by decide) ?_
  refine lv_iand hx hb dL_isMessage_16 ?_
  refine lv_imul hx hb dL_isMessage_17 ?_
  refine lv_iadd hx hb dL_isMessage_18 ?_
  refine n_iconst hx hb 4 dL_isMessage_19 (by decide) ?_
  refine lv_aload hx hb dL_isMessage_20 (lv_at hl 5 rfl) ?_
  refine n_iconst hx hb 2 dL_isMessage_22 (by decide) ?_
  refine n_iald hx hb hK hP 3 0 rfl rfl 2 (by decide) (by decide) dL_isMessage_23 ?_
  refine lv_iload_n hx hb dL_isMessage_24 rfl (lv_at hl 1 rfl) ?_
  refine x_ishr hx hb dL_isMessage_25 ?_
  refine n_iconst hx hb 1 dL_isMessage_26 (by decide) ?_
  refine lv_iand hx hb dL_isMessage_27 ?_
  refine lv_imul hx hb dL_isMessage_28 ?_
  refine lv_iadd hx hb dL_isMessage_29 ?_
  refine lv_istore (lv' := [(6, .int ((((iShr (fb 0) (nI mm)) &&& (nI 1)) + ((nI 2) * ((iShr (fb 1) (nI mm)) &&& (nI 1)))) + ((nI 4) * ((iShr (fb 2) (nI mm)) &&& (nI 1))))), (0, .ref (w 0)), (1, .int (nI mm)), (2, .ref aq), (3, .ref at9), (4, .ref ar), (5, .ref ab)]) hx hb dL_isMessage_30 hl (by decide) rfl (fun ls hl => ?_)
  have hl : lv_has ls 12 [(6, .int (vWho fb mm)), (0, .ref (w 0)), (1, .int (nI mm)), (2, .ref aq), (3, .ref at9), (4, .ref ar), (5, .ref ab)] := hl
  refine lv_iconst (v := -1) hx hb dL_isMessage_32 (by decide) ?_
  refine lv_istore (lv' := [(7, .int (-1)), (6, .int (vWho fb mm)), (0, .ref (w 0)), (1, .int (nI mm)), (2, .ref aq), (3, .ref at9), (4, .ref ar), (5, .ref ab)]) hx hb dL_isMessage_33 hl (by decide) rfl (fun ls hl => ?_)
  refine lv_iconst (v := -1) hx hb dL_isMessage_35 (by decide) ?_
  refine lv_istore (lv' := [(8, .int (-1)), (7, .int (-1)), (6, .int (vWho fb mm)), (0, .ref (w 0)), (1, .int (nI mm)), (2, .ref aq), (3, .ref at9), (4, .ref ar), (5, .ref ab)]) hx hb dL_isMessage_36 hl (by decide) rfl (fun ls hl => ?_)
  refine n_iconst hx hb 0 dL_isMessage_38 (by decide) ?_
  refine lv_istore (lv' := [(9, .int (nI 0)), (8, .int (-1)), (7, .int (-1)), (6, .int (vWho fb mm)), (0, .ref (w 0)), (1, .int (nI mm)), (2, .ref aq), (3, .ref at9), (4, .ref ar), (5, .ref ab)]) hx hb dL_isMessage_39 hl (by decide) rfl (fun ls hl => ?_)
  have L41 : ∀ (n9 k : Nat) (hk1 : k ≤ 6) (hk2 : 6 - k < n9) (x9 : Int32) (x8 : Int32) (x7 : Int32) (hx9 : x9 = nI k) (hx8 : x8 = (vBe fq fr fb tn mm k).2) (hx7 : x7 = (vBe fq fr fb tn mm k).1) (H : Heap) (locs : List Loc) (hP : va_P G vwCl ([(aq, .inl (T 0, 12, .inl fq)), (at9, .inl (T 0, 60, .inl ft)), (ar, .inl (T 0, 30, .inl fr)), (ab, .inl (T 0, 3, .inl fb))] ++ oC T (w, q, qz, h, qs, t, gr, u, tr, oc) (Sw, S, Z, Sh, Hs, X, Gg, U, K, O)) H) (hD : va_D A ([(aq, .inl (T 0, 12, .inl fq)), (at9, .inl (T 0, 60, .inl ft)), (ar, .inl (T 0, 30, .inl fr)), (ab, .inl (T 0, 3, .inl fb))] ++ oC T (w, q, qz, h, qs, t, gr, u, tr, oc) (Sw, S, Z, Sh, Hs, X, Gg, U, K, O))) (hS : va_S A s.heap H locs) (ls : Array Slot) (hl : lv_has ls 12 [(9, .int x9), (8, .int x8), (7, .int x7), (6, .int (vWho fb mm)), (0, .ref (w 0)), (1, .int (nI mm)), (2, .ref aq), (3, .ref at9), (4, .ref ar), (5, .ref ab)]), W p l e (headSpec wsL_isMessage (rmD 7 0 0)).room s m args below meth c H locs 0 0 Q0 (F0 m 41 ls []) := by
    intro n9
    induction n9 with
    | zero => intros; omega
    | succ n9 ih41 =>
      intro k hk1 hk2 x9 x8 x7 hx9 hx8 hx7 H locs hP hD hS ls hl
      subst hx9 hx8 hx7
      refine lv_iload hx hb dL_isMessage_41 (lv_at hl 0 rfl) ?_
      refine lv_bipush (v := nI 6) hx hb dL_isMessage_43 (by decide) ?_
      refine n_icmp_ge (a := k) (b := 6) (tgt := 148) hx hb (by omega) (by decide) dL_isMessage_45 (by decide) (fun c_1 => ?_) (fun c_2 => ?_)
      · skip
        obtain rfl : k = 6 := (by omega)
        refine lv_aload_n hx hb dL_isMessage_148 rfl (lv_at hl 4 rfl) ?_
        refine lv_iload_n hx hb dL_isMessage_149 rfl (lv_at hl 5 rfl) ?_
        refine n_iconst hx hb 0 dL_isMessage_150 (by decide) ?_
        refine k_lwS (As := [.ref (w 0), .int (nI mm), .int (nI 0)]) (rest := []) (wc := ([(aq, .inl (T 0, 12, .inl fq)), (at9, .inl (T 0, 60, .inl ft)), (ar, .inl (T 0, 30, .inl fr)), (ab, .inl (T 0, 3, .inl fb))] ++ oC T (w, q, qz, h, qs, t, gr, u, tr, oc) (Sw, S, Z, Sh, Hs, X, Gg, U, K, O))) (wr := []) (w1 := ([(aq, .inl (T 0, 12, .inl fq)), (at9, .inl (T 0, 60, .inl ft)), (ar, .inl (T 0, 30, .inl fr)), (ab, .inl (T 0, 3, .inl fb))] ++ oC T (w, q, qz, h, qs, t, gr, u, tr, oc) (Sw, S, Z, Sh, Hs, X, Gg, U, K, O))) (d := 2) (mc := 0) (ms := 0) (v := pMsg S mm 0) cx (RWi.fr (c_L_message l G T H.size w q qz h qs t gr u tr oc Sw S Z Sh Hs X Gg U K O mm 0 (by omega) (by omega)) (Fr.head [(aq, .inl (T 0, 12, .inl fq)), (at9, .inl (T 0, 60, .inl ft)), (ar, .inl (T 0, 30, .inl fr)), (ab, .inl (T 0, 3, .inl fb))] (oC T (w, q, qz, h, qs, t, gr, u, tr, oc) (Sw, S, Z, Sh, Hs, X, Gg, U, K, O)) (oC T (w, q, qz, h, qs, t, gr, u, tr, oc) (Sw, S, Z, Sh, Hs, X, Gg, U, K, O)))) (vx_cwSW 3 hts gL_isMessage_L_message rfl rfl rfl (by decide +kernel) ⟨Nat.le_of_ble_eq_true rfl, Nat.le_of_ble_eq_true rfl⟩) (kN_full hP hD hS hA hE hK) rfl hl.1 rfl (Nat.le_of_ble_eq_true rfl) dL_isMessage_151 ⟨Nat.le_of_ble_eq_true rfl, Nat.le_of_ble_eq_true rfl⟩ (fun H locs hP hD hS hz => ?_)
        have hP : va_P G vwCl ([(aq, .inl (T 0, 12, .inl fq)), (at9, .inl (T 0, 60, .inl ft)), (ar, .inl (T 0, 30, .inl fr)), (ab, .inl (T 0, 3, .inl fb))] ++ oC T (w, q, qz, h, qs, t, gr, u, tr, oc) (Sw, S, Z, Sh, Hs, X, Gg, U, K, O)) H := hP
        have hD : va_D A ([(aq, .inl (T 0, 12, .inl fq)), (at9, .inl (T 0, 60, .inl ft)), (ar, .inl (T 0, 30, .inl fr)), (ab, .inl (T 0, 3, .inl fb))] ++ oC T (w, q, qz, h, qs, t, gr, u, tr, oc) (Sw, S, Z, Sh, Hs, X, Gg, U, K, O)) := hD
        refine lv_aload_n hx hb dL_isMessage_154 rfl (lv_at hl 7 rfl) ?_
        refine lv_iload_n hx hb dL_isMessage_155 rfl (lv_at hl 5 rfl) ?_
        refine n_iald hx hb hK hP 1 0 rfl rfl mm (by omega) (by decide) dL_isMessage_156 ?_
        refine n_top (y := nI (tn mm)) (htn _ (by omega)) ?_
        refine k_roS (As := [.int (nI (tn mm))]) (rest := [.int (pMsg S mm 0)]) (wc := []) (d := 0) (v := nI (uMy (tn mm))) cx (c_L_many l G T A (tn mm) (by omega)) (va_cwS 1 hts gL_isMessage_L_many rfl rfl rfl (by decide +kernel) ⟨Nat.le_of_ble_eq_true rfl, Nat.le_of_ble_eq_true rfl⟩) (hP.sub (ws' := []) [] rfl) hK (hE.kept hS.2.1) rfl hl.1 rfl (Nat.le_of_ble_eq_true rfl) dL_isMessage_157 ⟨Nat.le_of_ble_eq_true rfl, Nat.le_of_ble_eq_true rfl⟩ ?_
        refine lv_icmp_ne (tgt := 218) hx hb dL_isMessage_160 (by decide) (fun c_3 => by exfalso; exact c_3 hq0) (fun c_4 => ?_)
        refine lv_aload_n hx hb dL_isMessage_163 rfl (lv_at hl 4 rfl) ?_
        refine lv_iload_n hx hb dL_isMessage_164 rfl (lv_at hl 5 rfl) ?_
        refine n_iconst hx hb 1 dL_isMessage_165 (by decide) ?_
        refine k_lwS (As := [.ref (w 0), .int (nI mm), .int (nI 1)]) (rest := []) (wc := ([(aq, .inl (T 0, 12, .inl fq)), (at9, .inl (T 0, 60, .inl ft)), (ar, .inl (T 0, 30, .inl fr)), (ab, .inl (T 0, 3, .inl fb))] ++ oC T (w, q, qz, h, qs, t, gr, u, tr, oc) (Sw, S, Z, Sh, Hs, X, Gg, U, K, O))) (wr := []) (w1 := ([(aq, .inl (T 0, 12, .inl fq)), (at9, .inl (T 0, 60, .inl ft)), (ar, .inl (T 0, 30, .inl fr)), (ab, .inl (T 0, 3, .inl fb))] ++ oC T (w, q, qz, h, qs, t, gr, u, tr, oc) (Sw, S, Z, Sh, Hs, X, Gg, U, K, O))) (d := 2) (mc := 0) (ms := 0) (v := pMsg S mm 1) cx (RWi.fr (c_L_message l G T H.size w q qz h qs t gr u tr oc Sw S Z Sh Hs X Gg U K O mm 1 (by omega) (by omega)) (Fr.head [(aq, .inl (T 0, 12, .inl fq)), (at9, .inl (T 0, 60, .inl ft)), (ar, .inl (T 0, 30, .inl fr)), (ab, .inl (T 0, 3, .inl fb))] (oC T (w, q, qz, h, qs, t, gr, u, tr, oc) (Sw, S, Z, Sh, Hs, X, Gg, U, K, O)) (oC T (w, q, qz, h, qs, t, gr, u, tr, oc) (Sw, S, Z, Sh, Hs, X, Gg, U, K, O)))) (vx_cwSW 3 hts gL_isMessage_L_message rfl rfl rfl (by decide +kernel) ⟨Nat.le_of_ble_eq_true rfl, Nat.le_of_ble_eq_true rfl⟩) (kN_full hP hD hS hA hE hK) rfl hl.1 rfl (Nat.le_of_ble_eq_true rfl) dL_isMessage_166 ⟨Nat.le_of_ble_eq_true rfl, Nat.le_of_ble_eq_true rfl⟩ (fun H locs hP hD hS hz => ?_)
        have hP : va_P G vwCl ([(aq, .inl (T 0, 12, .inl fq)), (at9, .inl (T 0, 60, .inl ft)), (ar, .inl (T 0, 30, .inl fr)), (ab, .inl (T 0, 3, .inl fb))] ++ oC T (w, q, qz, h, qs, t, gr, u, tr, oc) (Sw, S, Z, Sh, Hs, X, Gg, U, K, O)) H := hP
        have hD : va_D A ([(aq, .inl (T 0, 12, .inl fq)), (at9, .inl (T 0, 60, .inl ft)), (ar, .inl (T 0, 30, .inl fr)), (ab, .inl (T 0, 3, .inl fb))] ++ oC T (w, q, qz, h, qs, t, gr, u, tr, oc) (Sw, S, Z, Sh, Hs, X, Gg, U, K, O)) := hD
        refine lv_iload hx hb dL_isMessage_169 (lv_at hl 3 rfl) ?_
        refine lv_icmp_ne (tgt := 218) hx hb dL_isMessage_171 (by decide) (fun c_5 => by exfalso; exact c_5 hq1) (fun c_6 => ?_)
        refine lv_aload_n hx hb dL_isMessage_174 rfl (lv_at hl 4 rfl) ?_
        refine lv_iload_n hx hb dL_isMessage_175 rfl (lv_at hl 5 rfl) ?_
        refine n_iconst hx hb 2 dL_isMessage_176 (by decide) ?_
        refine k_lwS (As := [.ref (w 0), .int (nI mm), .int (nI 2)]) (rest := []) (wc := ([(aq, .inl (T 0, 12, .inl fq)), (at9, .inl (T 0, 60, .inl ft)), (ar, .inl (T 0, 30, .inl fr)), (ab, .inl (T 0, 3, .inl fb))] ++ oC T (w, q, qz, h, qs, t, gr, u, tr, oc) (Sw, S, Z, Sh, Hs, X, Gg, U, K, O))) (wr := []) (w1 := ([(aq, .inl (T 0, 12, .inl fq)), (at9, .inl (T 0, 60, .inl ft)), (ar, .inl (T 0, 30, .inl fr)), (ab, .inl (T 0, 3, .inl fb))] ++ oC T (w, q, qz, h, qs, t, gr, u, tr, oc) (Sw, S, Z, Sh, Hs, X, Gg, U, K, O))) (d := 2) (mc := 0) (ms := 0) (v := pMsg S mm 2) cx (RWi.fr (c_L_message l G T H.size w q qz h qs t gr u tr oc Sw S Z Sh Hs X Gg U K O mm 2 (by omega) (by omega)) (Fr.head [(aq, .inl (T 0, 12, .inl fq)), (at9, .inl (T 0, 60, .inl ft)), (ar, .inl (T 0, 30, .inl fr)), (ab, .inl (T 0, 3, .inl fb))] (oC T (w, q, qz, h, qs, t, gr, u, tr, oc) (Sw, S, Z, Sh, Hs, X, Gg, U, K, O)) (oC T (w, q, qz, h, qs, t, gr, u, tr, oc) (Sw, S, Z, Sh, Hs, X, Gg, U, K, O)))) (vx_cwSW 3 hts gL_isMessage_L_message rfl rfl rfl (by decide +kernel) ⟨Nat.le_of_ble_eq_true rfl, Nat.le_of_ble_eq_true rfl⟩) (kN_full hP hD hS hA hE hK) rfl hl.1 rfl (Nat.le_of_ble_eq_true rfl) dL_isMessage_177 ⟨Nat.le_of_ble_eq_true rfl, Nat.le_of_ble_eq_true rfl⟩ (fun H locs hP hD hS hz => ?_)
        have hP : va_P G vwCl ([(aq, .inl (T 0, 12, .inl fq)), (at9, .inl (T 0, 60, .inl ft)), (ar, .inl (T 0, 30, .inl fr)), (ab, .inl (T 0, 3, .inl fb))] ++ oC T (w, q, qz, h, qs, t, gr, u, tr, oc) (Sw, S, Z, Sh, Hs, X, Gg, U, K, O)) H := hP
        have hD : va_D A ([(aq, .inl (T 0, 12, .inl fq)), (at9, .inl (T 0, 60, .inl ft)), (ar, .inl (T 0, 30, .inl fr)), (ab, .inl (T 0, 3, .inl fb))] ++ oC T (w, q, qz, h, qs, t, gr, u, tr, oc) (Sw, S, Z, Sh, Hs, X, Gg, U, K, O)) := hD
        refine lv_aload_n hx hb dL_isMessage_180 rfl (lv_at hl 7 rfl) ?_
        refine lv_bipush (v := nI 20) hx hb dL_isMessage_181 (by decide) ?_
        refine lv_iload_n hx hb dL_isMessage_183 rfl (lv_at hl 5 rfl) ?_
        refine n_iadd (a := 20) (b := mm) hx hb dL_isMessage_184 ?_
        refine n_iald hx hb hK hP 1 0 rfl rfl (20 + mm) (by omega) (by decide) dL_isMessage_185 ?_
        refine lv_icmp_ne (tgt := 218) hx hb dL_isMessage_186 (by decide) (fun c_7 => by exfalso; exact c_7 hq2) (fun c_8 => ?_)
        refine lv_aload_n hx hb dL_isMessage_189 rfl (lv_at hl 4 rfl) ?_
        refine lv_iload_n hx hb dL_isMessage_190 rfl (lv_at hl 5 rfl) ?_
        refine n_iconst hx hb 3 dL_isMessage_191 (by decide) ?_
        refine k_lwS (As := [.ref (w 0), .int (nI mm), .int (nI 3)]) (rest := []) (wc := ([(aq, .inl (T 0, 12, .inl fq)), (at9, .inl (T 0, 60, .inl ft)), (ar, .inl (T 0, 30, .inl fr)), (ab, .inl (T 0, 3, .inl fb))] ++ oC T (w, q, qz, h, qs, t, gr, u, tr, oc) (Sw, S, Z, Sh, Hs, X, Gg, U, K, O))) (wr := []) (w1 := ([(aq, .inl (T 0, 12, .inl fq)), (at9, .inl (T 0, 60, .inl ft)), (ar, .inl (T 0, 30, .inl fr)), (ab, .inl (T 0, 3, .inl fb))] ++ oC T (w, q, qz, h, qs, t, gr, u, tr, oc) (Sw, S, Z, Sh, Hs, X, Gg, U, K, O))) (d := 2) (mc := 0) (ms := 0) (v := pMsg S mm 3) cx (RWi.fr (c_L_message l G T H.size w q qz h qs t gr u tr oc Sw S Z Sh Hs X Gg U K O mm 3 (by omega) (by omega)) (Fr.head [(aq, .inl (T 0, 12, .inl fq)), (at9, .inl (T 0, 60, .inl ft)), (ar, .inl (T 0, 30, .inl fr)), (ab, .inl (T 0, 3, .inl fb))] (oC T (w, q, qz, h, qs, t, gr, u, tr, oc) (Sw, S, Z, Sh, Hs, X, Gg, U, K, O)) (oC T (w, q, qz, h, qs, t, gr, u, tr, oc) (Sw, S, Z, Sh, Hs, X, Gg, U, K, O)))) (vx_cwSW 3 hts gL_isMessage_L_message rfl rfl rfl (by decide +kernel) ⟨Nat.le_of_ble_eq_true rfl, Nat.le_of_ble_eq_true rfl⟩) (kN_full hP hD hS hA hE hK) rfl hl.1 rfl (Nat.le_of_ble_eq_true rfl) dL_isMessage_192 ⟨Nat.le_of_ble_eq_true rfl, Nat.le_of_ble_eq_true rfl⟩ (fun H locs hP hD hS hz => ?_)
        have hP : va_P G vwCl ([(aq, .inl (T 0, 12, .inl fq)), (at9, .inl (T 0, 60, .inl ft)), (ar, .inl (T 0, 30, .inl fr)), (ab, .inl (T 0, 3, .inl fb))] ++ oC T (w, q, qz, h, qs, t, gr, u, tr, oc) (Sw, S, Z, Sh, Hs, X, Gg, U, K, O)) H := hP
        have hD : va_D A ([(aq, .inl (T 0, 12, .inl fq)), (at9, .inl (T 0, 60, .inl ft)), (ar, .inl (T 0, 30, .inl fr)), (ab, .inl (T 0, 3, .inl fb))] ++ oC T (w, q, qz, h, qs, t, gr, u, tr, oc) (Sw, S, Z, Sh, Hs, X, Gg, U, K, O)) := hD
        refine lv_aload_n hx hb dL_isMessage_195 rfl (lv_at hl 7 rfl) ?_
        refine lv_bipush (v := nI 40) hx hb dL_isMessage_196 (by decide) ?_
        refine lv_iload_n hx hb dL_isMessage_198 rfl (lv_at hl 5 rfl) ?_
        refine n_iadd (a := 40) (b := mm) hx hb dL_isMessage_199 ?_
        refine n_iald hx hb hK hP 1 0 rfl rfl (40 + mm) (by omega) (by decide) dL_isMessage_200 ?_
        refine lv_icmp_ne (tgt := 218) hx hb dL_isMessage_201 (by decide) (fun c_9 => by exfalso; exact c_9 hq3) (fun c_10 => ?_)
        refine lv_aload_n hx hb dL_isMessage_204 rfl (lv_at hl 4 rfl) ?_
        refine lv_iload_n hx hb dL_isMessage_205 rfl (lv_at hl 5 rfl) ?_
        refine k_lwS (As := [.ref (w 0), .int (nI mm)]) (rest := []) (wc := ([(aq, .inl (T 0, 12, .inl fq)), (at9, .inl (T 0, 60, .inl ft)), (ar, .inl (T 0, 30, .inl fr)), (ab, .inl (T 0, 3, .inl fb))] ++ oC T (w, q, qz, h, qs, t, gr, u, tr, oc) (Sw, S, Z, Sh, Hs, X, Gg, U, K, O))) (wr := []) (w1 := ([(aq, .inl (T 0, 12, .inl fq)), (at9, .inl (T 0, 60, .inl ft)), (ar, .inl (T 0, 30, .inl fr)), (ab, .inl (T 0, 3, .inl fb))] ++ oC T (w, q, qz, h, qs, t, gr, u, tr, oc) (Sw, S, Z, Sh, Hs, X, Gg, U, K, pBrO O S mm 6))) (d := 5) (mc := 0) (ms := 0) (v := (pBr S mm 6).1) cx (RWi.fr (c_L_bestRoom l G T H.size w q qz h qs t gr u tr oc Sw S Z Sh Hs X Gg U K O mm (by omega)) (Fr.head [(aq, .inl (T 0, 12, .inl fq)), (at9, .inl (T 0, 60, .inl ft)), (ar, .inl (T 0, 30, .inl fr)), (ab, .inl (T 0, 3, .inl fb))] (oC T (w, q, qz, h, qs, t, gr, u, tr, oc) (Sw, S, Z, Sh, Hs, X, Gg, U, K, O)) (oC T (w, q, qz, h, qs, t, gr, u, tr, oc) (Sw, S, Z, Sh, Hs, X, Gg, U, K, pBrO O S mm 6)))) (vx_cwSW 2 hts gL_isMessage_L_bestRoom rfl rfl rfl (by decide +kernel) ⟨Nat.le_of_ble_eq_true rfl, Nat.le_of_ble_eq_true rfl⟩) (kN_full hP hD hS hA hE hK) rfl hl.1 rfl (Nat.le_of_ble_eq_true rfl) dL_isMessage_206 ⟨Nat.le_of_ble_eq_true rfl, Nat.le_of_ble_eq_true rfl⟩ (fun H locs hP hD hS hz => ?_)
        have hP : va_P G vwCl ([(aq, .inl (T 0, 12, .inl fq)), (at9, .inl (T 0, 60, .inl ft)), (ar, .inl (T 0, 30, .inl fr)), (ab, .inl (T 0, 3, .inl fb))] ++ oC T (w, q, qz, h, qs, t, gr, u, tr, oc) (Sw, S, Z, Sh, Hs, X, Gg, U, K, pBrO O S mm 6)) H := hP
        have hD : va_D A ([(aq, .inl (T 0, 12, .inl fq)), (at9, .inl (T 0, 60, .inl ft)), (ar, .inl (T 0, 30, .inl fr)), (ab, .inl (T 0, 3, .inl fb))] ++ oC T (w, q, qz, h, qs, t, gr, u, tr, oc) (Sw, S, Z, Sh, Hs, X, Gg, U, K, pBrO O S mm 6)) := hD
        refine lv_iload hx hb dL_isMessage_209 (lv_at hl 2 rfl) ?_
        refine lv_icmp_ne (tgt := 218) hx hb dL_isMessage_211 (by decide) (fun c_11 => by exfalso; exact c_11 hqb) (fun c_12 => ?_)
        refine n_iconst hx hb 1 dL_isMessage_214 (by decide) ?_
        refine lv_goto (tgt := 219) hx hb dL_isMessage_215 (by decide) ?_
        refine lv_istore (lv' := [(9, .int (nI 1)), (8, .int ((vBe fq fr fb tn mm 6).2)), (7, .int ((vBe fq fr fb tn mm 6).1)), (6, .int (vWho fb mm)), (0, .ref (w 0)), (1, .int (nI mm)), (2, .ref aq), (3, .ref at9), (4, .ref ar), (5, .ref ab)]) hx hb dL_isMessage_219 hl (by decide) rfl (fun ls hl => ?_)
        refine n_iconst hx hb 0 dL_isMessage_221 (by decide) ?_
        refine lv_istore (lv' := [(10, .int (nI 0)), (9, .int (nI 1)), (8, .int ((vBe fq fr fb tn mm 6).2)), (7, .int ((vBe fq fr fb tn mm 6).1)), (6, .int (vWho fb mm)), (0, .ref (w 0)), (1, .int (nI mm)), (2, .ref aq), (3, .ref at9), (4, .ref ar), (5, .ref ab)]) hx hb dL_isMessage_222 hl (by decide) rfl (fun ls hl => ?_)
        have L224_i_13 : ∀ (n9 k : Nat) (hk1 : k ≤ 8) (hk2 : 8 - k < n9) (x10 : Int32) (hx10 : x10 = nI k) (H : Heap) (locs : List Loc) (hP : va_P G vwCl ([(aq, .inl (T 0, 12, .inl fq)), (at9, .inl (T 0, 60, .inl ft)), (ar, .inl (T 0, 30, .inl fr)), (ab, .inl (T 0, 3, .inl fb))] ++ oC T (w, q, qz, h, qs, t, gr, u, tr, oc) (Sw, S, Z, Sh, Hs, X, Gg, U, K, pBrO O S mm 6)) H) (hD : va_D A ([(aq, .inl (T 0, 12, .inl fq)), (at9, .inl (T 0, 60, .inl ft)), (ar, .inl (T 0, 30, .inl fr)), (ab, .inl (T 0, 3, .inl fb))] ++ oC T (w, q, qz, h, qs, t, gr, u, tr, oc) (Sw, S, Z, Sh, Hs, X, Gg, U, K, pBrO O S mm 6))) (hS : va_S A s.heap H locs) (ls : Array Slot) (hl : lv_has ls 12 [(10, .int x10), (9, .int (nI 1)), (8, .int ((vBe fq fr fb tn mm 6).2)), (7, .int ((vBe fq fr fb tn mm 6).1)), (6, .int (vWho fb mm)), (0, .ref (w 0)), (1, .int (nI mm)), (2, .ref aq), (3, .ref at9), (4, .ref ar), (5, .ref ab)]), W p l e (headSpec wsL_isMessage (rmD 7 0 0)).room s m args below meth c H locs 0 0 Q0 (F0 m 224 ls []) := by
          intro n9
          induction n9 with
          | zero => intros; omega
          | succ n9 ih224 =>
            intro k hk1 hk2 x10 hx10 H locs hP hD hS ls hl
            subst hx10
            refine lv_iload hx hb dL_isMessage_224 (lv_at hl 0 rfl) ?_
            refine lv_bipush (v := nI 8) hx hb dL_isMessage_226 (by decide) ?_
            refine n_icmp_ge (a := k) (b := 8) (tgt := 282) hx hb (by omega) (by decide) dL_isMessage_228 (by decide) (fun c_14 => ?_) (fun c_15 => ?_)
            · skip
              refine lv_iload hx hb dL_isMessage_282 (lv_at hl 1 rfl) ?_
              subst hQ
              have hP9 : va_P G vwCl ([(aq, .inl (T 0, 12, .inl fq)), (at9, .inl (T 0, 60, .inl ft)), (ar, .inl (T 0, 30, .inl fr)), (ab, .inl (T 0, 3, .inl fb))] ++ oC T (w, q, qz, h, qs, t, gr, u, tr, oc) (Sw, S, Z, Sh, Hs, X, Gg, U, K, pBrO O S mm 6)) H := hP
              have hD9 : va_D A ([(aq, .inl (T 0, 12, .inl fq)), (at9, .inl (T 0, 60, .inl ft)), (ar, .inl (T 0, 30, .inl fr)), (ab, .inl (T 0, 3, .inl fb))] ++ oC T (w, q, qz, h, qs, t, gr, u, tr, oc) (Sw, S, Z, Sh, Hs, X, Gg, U, K, pBrO O S mm 6)) := hD
              exact e_rwz hx hb hr hlocks (by first | rfl | exact nar_b _) hS rfl hP9 hD9 dL_isMessage_284
            · skip
              refine lv_iload hx hb dL_isMessage_231 (lv_at hl 1 rfl) ?_
              refine n_if_eq (a := 1) (tgt := 273) hx hb (by decide) dL_isMessage_233 (by decide) (fun h9 => absurd h9 (by decide)) (fun c_16 => ?_)
              refine lv_aload_n hx hb dL_isMessage_236 rfl (lv_at hl 5 rfl) ?_
              refine lv_iload_n hx hb dL_isMessage_237 rfl (lv_at hl 6 rfl) ?_
              refine lv_iload hx hb dL_isMessage_238 (lv_at hl 0 rfl) ?_
              refine k_lwS (As := [.ref (w 0), .int (nI mm), .int (nI k)]) (rest := []) (wc := ([(aq, .inl (T 0, 12, .inl fq)), (at9, .inl (T 0, 60, .inl ft)), (ar, .inl (T 0, 30, .inl fr)), (ab, .inl (T 0, 3, .inl fb))] ++ oC T (w, q, qz, h, qs, t, gr, u, tr, oc) (Sw, S, Z, Sh, Hs, X, Gg, U, K, pBrO O S mm 6))) (wr := []) (w1 := ([(aq, .inl (T 0, 12, .inl fq)), (at9, .inl (T 0, 60, .inl ft)), (ar, .inl (T 0, 30, .inl fr)), (ab, .inl (T 0, 3, .inl fb))] ++ oC T (w, q, qz, h, qs, t, gr, u, tr, oc) (Sw, S, Z, Sh, Hs, X, Gg, U, K, pBrO O S mm 6))) (d := 3) (mc := 0) (ms := 0) (v := pNote S mm k) cx (RWi.fr (c_L_note l G T H.size w q qz h qs t gr u tr oc Sw S Z Sh Hs X Gg U K (pBrO O S mm 6) mm k (by omega) (by omega)) (Fr.head [(aq, .inl (T 0, 12, .inl fq)), (at9, .inl (T 0, 60, .inl ft)), (ar, .inl (T 0, 30, .inl fr)), (ab, .inl (T 0, 3, .inl fb))] (oC T (w, q, qz, h, qs, t, gr, u, tr, oc) (Sw, S, Z, Sh, Hs, X, Gg, U, K, pBrO O S mm 6)) (oC T (w, q, qz, h, qs, t, gr, u, tr, oc) (Sw, S, Z, Sh, Hs, X, Gg, U, K, pBrO O S mm 6)))) (vx_cwSW 3 hts gL_isMessage_L_note rfl rfl rfl (by decide +kernel) ⟨Nat.le_of_ble_eq_true rfl, Nat.le_of_ble_eq_true rfl⟩) (kN_full hP hD hS hA hE hK) rfl hl.1 rfl (Nat.le_of_ble_eq_true rfl) dL_isMessage_240 ⟨Nat.le_of_ble_eq_true rfl, Nat.le_of_ble_eq_true rfl⟩ (fun H locs hP hD hS hz => ?_)
              have hP : va_P G vwCl ([(aq, .inl (T 0, 12, .inl fq)), (at9, .inl (T 0, 60, .inl ft)), (ar, .inl (T 0, 30, .inl fr)), (ab, .inl (T 0, 3, .inl fb))] ++ oC T (w, q, qz, h, qs, t, gr, u, tr, oc) (Sw, S, Z, Sh, Hs, X, Gg, U, K, pBrO O S mm 6)) H := hP
              have hD : va_D A ([(aq, .inl (T 0, 12, .inl fq)), (at9, .inl (T 0, 60, .inl ft)), (ar, .inl (T 0, 30, .inl fr)), (ab, .inl (T 0, 3, .inl fb))] ++ oC T (w, q, qz, h, qs, t, gr, u, tr, oc) (Sw, S, Z, Sh, Hs, X, Gg, U, K, pBrO O S mm 6)) := hD
              refine lv_iload hx hb dL_isMessage_243 (lv_at hl 0 rfl) ?_
              refine lv_aload_n hx hb dL_isMessage_245 rfl (lv_at hl 8 rfl) ?_
              refine lv_iload_n hx hb dL_isMessage_246 rfl (lv_at hl 6 rfl) ?_
              refine n_iald hx hb hK hP 1 0 rfl rfl mm (by omega) (by decide) dL_isMessage_247 ?_
              refine n_top (y := nI (tn mm)) (htn _ (by omega)) ?_
              refine k_roS (As := [.int (nI (tn mm))]) (rest := [.int (nI k), .int (pNote S mm k)]) (wc := []) (d := 0) (v := nI (uMy (tn mm))) cx (c_L_many l G T A (tn mm) (by omega)) (va_cwS 1 hts gL_isMessage_L_many rfl rfl rfl (by decide +kernel) ⟨Nat.le_of_ble_eq_true rfl, Nat.le_of_ble_eq_true rfl⟩) (hP.sub (ws' := []) [] rfl) hK (hE.kept hS.2.1) rfl hl.1 rfl (Nat.le_of_ble_eq_true rfl) dL_isMessage_248 ⟨Nat.le_of_ble_eq_true rfl, Nat.le_of_ble_eq_true rfl⟩ ?_
              refine n_icmp_ge (a := k) (b := uMy (tn mm)) (tgt := 265) hx hb (by omega) (by omega) dL_isMessage_251 (by decide) (fun c_17 => ?_) (fun c_18 => ?_)
              · skip
                refine lv_iconst (v := -1) hx hb dL_isMessage_265 (by decide) ?_
                refine lv_icmp_ne (tgt := 273) hx hb dL_isMessage_266 (by decide) (fun c_19 => by exfalso; exact c_19 ((hqn k (by omega)).trans (by first | rw [if_pos (by omega)] | rw [if_neg (by omega)]))) (fun c_20 => ?_)
                refine n_iconst hx hb 1 dL_isMessage_269 (by decide) ?_
                refine lv_goto (tgt := 274) hx hb dL_isMessage_270 (by decide) ?_
                refine lv_istore (lv' := [(9, .int (nI 1)), (10, .int (nI k)), (8, .int ((vBe fq fr fb tn mm 6).2)), (7, .int ((vBe fq fr fb tn mm 6).1)), (6, .int (vWho fb mm)), (0, .ref (w 0)), (1, .int (nI mm)), (2, .ref aq), (3, .ref at9), (4, .ref ar), (5, .ref ab)]) hx hb dL_isMessage_274 hl (by decide) rfl (fun ls hl => ?_)
                refine lv_iinc (v := nI (k + 1)) (lv' := [(10, .int (nI (k + 1))), (9, .int (nI 1)), (8, .int ((vBe fq fr fb tn mm 6).2)), (7, .int ((vBe fq fr fb tn mm 6).1)), (6, .int (vWho fb mm)), (0, .ref (w 0)), (1, .int (nI mm)), (2, .ref aq), (3, .ref at9), (4, .ref ar), (5, .ref ab)]) hx hb dL_isMessage_276 hl (k := 1) rfl (n_inc k 1 rfl) (by decide) rfl (fun ls hl => ?_)
                refine lv_goto (tgt := 224) hx hb dL_isMessage_279 (by decide) ?_
                exact ih224 (k + 1) (by omega) (by omega) _ rfl _ _ hP hD hS _ (lv_sub hl [0, 1, 2, 3, 4, 5, 6, 7, 8, 9, 10] rfl)
              · skip
                refine lv_aload_n hx hb dL_isMessage_254 rfl (lv_at hl 8 rfl) ?_
                refine lv_iload_n hx hb dL_isMessage_255 rfl (lv_at hl 6 rfl) ?_
                refine n_iald hx hb hK hP 1 0 rfl rfl mm (by omega) (by decide) dL_isMessage_256 ?_
                refine n_top (y := nI (tn mm)) (htn _ (by omega)) ?_
                refine lv_iload hx hb dL_isMessage_257 (lv_at hl 0 rfl) ?_
                refine k_roS (As := [.int (nI (tn mm)), .int (nI k)]) (rest := [.int (pNote S mm k)]) (wc := []) (d := 0) (v := nI (uNt (tn mm) k)) cx (c_L_noteAt l G T A (tn mm) k (by omega) (by omega)) (va_cwS 2 hts gL_isMessage_L_noteAt rfl rfl rfl (by decide +kernel) ⟨Nat.le_of_ble_eq_true rfl, Nat.le_of_ble_eq_true rfl⟩) (hP.sub (ws' := []) [] rfl) hK (hE.kept hS.2.1) rfl hl.1 rfl (Nat.le_of_ble_eq_true rfl) dL_isMessage_259 ⟨Nat.le_of_ble_eq_true rfl, Nat.le_of_ble_eq_true rfl⟩ ?_
                refine lv_goto (tgt := 266) hx hb dL_isMessage_262 (by decide) ?_
                refine lv_icmp_ne (tgt := 273) hx hb dL_isMessage_266 (by decide) (fun c_21 => by exfalso; exact c_21 ((hqn k (by omega)).trans (by first | rw [if_pos (by omega)] | rw [if_neg (by omega)]))) (fun c_22 => ?_)
                refine n_iconst hx hb 1 dL_isMessage_269 (by decide) ?_
                refine lv_goto (tgt := 274) hx hb dL_isMessage_270 (by decide) ?_
                refine lv_istore (lv' := [(9, .int (nI 1)), (10, .int (nI k)), (8, .int ((vBe fq fr fb tn mm 6).2)), (7, .int ((vBe fq fr fb tn mm 6).1)), (6, .int (vWho fb mm)), (0, .ref (w 0)), (1, .int (nI mm)), (2, .ref aq), (3, .ref at9), (4, .ref ar), (5, .ref ab)]) hx hb dL_isMessage_274 hl (by decide) rfl (fun ls hl => ?_)
                refine lv_iinc (v := nI (k + 1)) (lv' := [(10, .int (nI (k + 1))), (9, .int (nI 1)), (8, .int ((vBe fq fr fb tn mm 6).2)), (7, .int ((vBe fq fr fb tn mm 6).1)), (6, .int (vWho fb mm)), (0, .ref (w 0)), (1, .int (nI mm)), (2, .ref aq), (3, .ref at9), (4, .ref ar), (5, .ref ab)]) hx hb dL_isMessage_276 hl (k := 1) rfl (n_inc k 1 rfl) (by decide) rfl (fun ls hl => ?_)
                refine lv_goto (tgt := 224) hx hb dL_isMessage_279 (by decide) ?_
                exact ih224 (k + 1) (by omega) (by omega) _ rfl _ _ hP hD hS _ (lv_sub hl [0, 1, 2, 3, 4, 5, 6, 7, 8, 9, 10] rfl)
        exact L224_i_13 (8 + 1) 0 (by omega) (by omega) _ rfl _ _ hP hD hS _ (lv_sub hl [0, 1, 2, 3, 4, 5, 6, 7, 8, 9, 10] rfl)
      · skip
        refine lv_iload hx hb dL_isMessage_48 (lv_at hl 0 rfl) ?_
        refine lv_iload_n hx hb dL_isMessage_50 rfl (lv_at hl 5 rfl) ?_
        refine lv_aload_n hx hb dL_isMessage_51 rfl (lv_at hl 6 rfl) ?_
        refine lv_aload_n hx hb dL_isMessage_52 rfl (lv_at hl 7 rfl) ?_
        refine lv_aload hx hb dL_isMessage_53 (lv_at hl 8 rfl) ?_
        refine k_roS (As := [.int (nI k), .int (nI mm), .ref aq, .ref at9, .ref ar]) (rest := []) (wc := [(aq, .inl (T 0, 12, .inl fq))] ++ [(at9, .inl (T 0, 60, .inl ft))] ++ [(ar, .inl (T 0, 30, .inl fr))]) (d := 0) (v := vWy fq fr tn k mm) cx (c_L_why l G T A aq fq at9 ft ar fr tn k mm (by first | assumption | rfl | omega) (by omega) (by omega) (by omega)) (va_cwS 5 hts gL_isMessage_L_why rfl rfl rfl (by decide +kernel) ⟨Nat.le_of_ble_eq_true rfl, Nat.le_of_ble_eq_true rfl⟩) (hP.sub (ws' := [(aq, .inl (T 0, 12, .inl fq))] ++ [(at9, .inl (T 0, 60, .inl ft))] ++ [(ar, .inl (T 0, 30, .inl fr))]) [0, 1, 2] rfl) hK (hE.kept hS.2.1) rfl hl.1 rfl (Nat.le_of_ble_eq_true rfl) dL_isMessage_55 ⟨Nat.le_of_ble_eq_true rfl, Nat.le_of_ble_eq_true rfl⟩ ?_
        have J_23 : ∀ y9 : Int32, y9 = (bI (vCan fq fr fb tn mm k)) → W p l e (headSpec wsL_isMessage (rmD 7 0 0)).room s m args below meth c H locs 0 0 Q0 (F0 m 81 ls (.int y9 :: [])) := by
          intro y9 hy9
          subst hy9
          refine lv_istore (lv' := [(10, .int (bI (vCan fq fr fb tn mm k))), (9, .int (nI k)), (8, .int ((vBe fq fr fb tn mm k).2)), (7, .int ((vBe fq fr fb tn mm k).1)), (6, .int (vWho fb mm)), (0, .ref (w 0)), (1, .int (nI mm)), (2, .ref aq), (3, .ref at9), (4, .ref ar), (5, .ref ab)]) hx hb dL_isMessage_81 hl (by decide) rfl (fun ls hl => ?_)
          refine lv_iload hx hb dL_isMessage_83 (lv_at hl 1 rfl) ?_
          refine lv_iload_n hx hb dL_isMessage_85 rfl (lv_at hl 6 rfl) ?_
          refine n_iconst hx hb 1 dL_isMessage_86 (by decide) ?_
          refine lv_aload_n hx hb dL_isMessage_87 rfl (lv_at hl 7 rfl) ?_
          refine lv_aload hx hb dL_isMessage_88 (lv_at hl 9 rfl) ?_
          refine lv_aload hx hb dL_isMessage_90 (lv_at hl 10 rfl) ?_
          refine k_roS (As := [.int (nI k), .int (nI mm), .int (nI 1), .ref aq, .ref ar, .ref ab]) (rest := []) (wc := [(aq, .inl (T 0, 12, .inl fq))] ++ [(ar, .inl (T 0, 30, .inl fr))] ++ [(ab, .inl (T 0, 3, .inl fb))]) (d := 1) (v := vBr fq fr fb k mm 1) cx (c_L_brings l G T A aq fq ar fr ab fb k mm 1 (by omega) (by omega) (by omega)) (va_cwS 6 hts gL_isMessage_L_brings rfl rfl rfl (by decide +kernel) ⟨Nat.le_of_ble_eq_true rfl, Nat.le_of_ble_eq_true rfl⟩) (hP.sub (ws' := [(aq, .inl (T 0, 12, .inl fq))] ++ [(ar, .inl (T 0, 30, .inl fr))] ++ [(ab, .inl (T 0, 3, .inl fb))]) [0, 2, 3] rfl) hK (hE.kept hS.2.1) rfl hl.1 rfl (Nat.le_of_ble_eq_true rfl) dL_isMessage_92 ⟨Nat.le_of_ble_eq_true rfl, Nat.le_of_ble_eq_true rfl⟩ ?_
          refine k_roS (As := [.int (vBr fq fr fb k mm 1)]) (rest := []) (wc := []) (d := 0) (v := pBC (vBr fq fr fb k mm 1)) cx (c_L_ones l G T A (vBr fq fr fb k mm 1) (hzk _ (by omega))) (va_cwS 1 hts gL_isMessage_L_ones rfl rfl rfl (by decide +kernel) ⟨Nat.le_of_ble_eq_true rfl, Nat.le_of_ble_eq_true rfl⟩) (hP.sub (ws' := []) [] rfl) hK (hE.kept hS.2.1) rfl hl.1 rfl (Nat.le_of_ble_eq_true rfl) dL_isMessage_95 ⟨Nat.le_of_ble_eq_true rfl, Nat.le_of_ble_eq_true rfl⟩ ?_
          refine lv_istore (lv' := [(11, .int (pBC (vBr fq fr fb k mm 1))), (10, .int (bI (vCan fq fr fb tn mm k))), (9, .int (nI k)), (8, .int ((vBe fq fr fb tn mm k).2)), (7, .int ((vBe fq fr fb tn mm k).1)), (6, .int (vWho fb mm)), (0, .ref (w 0)), (1, .int (nI mm)), (2, .ref aq), (3, .ref at9), (4, .ref ar), (5, .ref ab)]) hx hb dL_isMessage_98 hl (by decide) rfl (fun ls hl => ?_)
          refine lv_iload hx hb dL_isMessage_100 (lv_at hl 1 rfl) ?_
          have J_24 : ∀ y9 : Int32, y9 = (vBe fq fr fb tn mm (k + 1)).1 → W p l e (headSpec wsL_isMessage (rmD 7 0 0)).room s m args below meth c H locs 0 0 Q0 (F0 m 119 ls (.int y9 :: [])) := by
            intro y9 hy9
            subst hy9
            refine lv_istore (lv' := [(7, .int ((vBe fq fr fb tn mm (k + 1)).1)), (11, .int (pBC (vBr fq fr fb k mm 1))), (10, .int (bI (vCan fq fr fb tn mm k))), (9, .int (nI k)), (8, .int ((vBe fq fr fb tn mm k).2)), (6, .int (vWho fb mm)), (0, .ref (w 0)), (1, .int (nI mm)), (2, .ref aq), (3, .ref at9), (4, .ref ar), (5, .ref ab)]) hx hb dL_isMessage_119 hl (by decide) rfl (fun ls hl => ?_)
            refine lv_iload hx hb dL_isMessage_121 (lv_at hl 2 rfl) ?_
            have J_25 : ∀ y9 : Int32, y9 = (vBe fq fr fb tn mm (k + 1)).2 → W p l e (headSpec wsL_isMessage (rmD 7 0 0)).room s m args below meth c H locs 0 0 Q0 (F0 m 140 ls (.int y9 :: [])) := by
              intro y9 hy9
              subst hy9
              refine lv_istore (lv' := [(8, .int ((vBe fq fr fb tn mm (k + 1)).2)), (7, .int ((vBe fq fr fb tn mm (k + 1)).1)), (11, .int (pBC (vBr fq fr fb k mm 1))), (10, .int (bI (vCan fq fr fb tn mm k))), (9, .int (nI k)), (6, .int (vWho fb mm)), (0, .ref (w 0)), (1, .int (nI mm)), (2, .ref aq), (3, .ref at9), (4, .ref ar), (5, .ref ab)]) hx hb dL_isMessage_140 hl (by decide) rfl (fun ls hl => ?_)
              refine lv_iinc (v := nI (k + 1)) (lv' := [(9, .int (nI (k + 1))), (8, .int ((vBe fq fr fb tn mm (k + 1)).2)), (7, .int ((vBe fq fr fb tn mm (k + 1)).1)), (11, .int (pBC (vBr fq fr fb k mm 1))), (10, .int (bI (vCan fq fr fb tn mm k))), (6, .int (vWho fb mm)), (0, .ref (w 0)), (1, .int (nI mm)), (2, .ref aq), (3, .ref at9), (4, .ref ar), (5, .ref ab)]) hx hb dL_isMessage_142 hl (k := 4) rfl (n_inc k 1 rfl) (by decide) rfl (fun ls hl => ?_)
              refine lv_goto (tgt := 41) hx hb dL_isMessage_145 (by decide) ?_
              exact ih41 (k + 1) (by omega) (by omega) _ _ _ rfl rfl rfl _ _ hP hD hS _ (lv_sub hl [0, 1, 2, 5, 6, 7, 8, 9, 10, 11] rfl)
            refine b_if_eq (b := vCan fq fr fb tn mm k) (tgt := 138) hx hb dL_isMessage_123 (by decide) (fun c_26 => ?_) (fun c_27 => ?_)
            · skip
              refine lv_iload hx hb dL_isMessage_138 (lv_at hl 4 rfl) ?_
              exact J_25 _ (by simp only [vBe]; first | (rw [if_pos ⟨by assumption, by assumption⟩] <;> rfl) | (rw [if_neg (fun h9 => by first | exact absurd (by assumption) h9.2 | (have h8 := h9.1; rw [c_26] at h8; exact absurd h8 (by decide)))] <;> rfl))
            · skip
              refine lv_iload hx hb dL_isMessage_126 (lv_at hl 1 rfl) ?_
              refine lv_iload hx hb dL_isMessage_128 (lv_at hl 4 rfl) ?_
              refine lv_icmp_le (tgt := 138) hx hb dL_isMessage_130 (by decide) (fun c_28 => ?_) (fun c_29 => ?_)
              · skip
                refine lv_iload hx hb dL_isMessage_138 (lv_at hl 4 rfl) ?_
                exact J_25 _ (by simp only [vBe]; first | (rw [if_pos ⟨by assumption, by assumption⟩] <;> rfl) | (rw [if_neg (fun h9 => by first | exact absurd (by assumption) h9.2 | (have h8 := h9.1; rw [c_28] at h8; exact absurd h8 (by decide)))] <;> rfl))
              · skip
                refine lv_iload hx hb dL_isMessage_133 (lv_at hl 1 rfl) ?_
                refine lv_goto (tgt := 140) hx hb dL_isMessage_135 (by decide) ?_
                exact J_25 _ (by simp only [vBe]; first | (rw [if_pos ⟨by assumption, by assumption⟩] <;> rfl) | (rw [if_neg (fun h9 => by first | exact absurd (by assumption) h9.2 | (have h8 := h9.1; rw [c_29] at h8; exact absurd h8 (by decide)))] <;> rfl))
          refine b_if_eq (b := vCan fq fr fb tn mm k) (tgt := 117) hx hb dL_isMessage_102 (by decide) (fun c_30 => ?_) (fun c_31 => ?_)
          · skip
            refine lv_iload hx hb dL_isMessage_117 (lv_at hl 4 rfl) ?_
            exact J_24 _ (by simp only [vBe]; first | (rw [if_pos ⟨by assumption, by assumption⟩] <;> rfl) | (rw [if_neg (fun h9 => by first | exact absurd (by assumption) h9.2 | (have h8 := h9.1; rw [c_30] at h8; exact absurd h8 (by decide)))] <;> rfl))
          · skip
            refine lv_iload hx hb dL_isMessage_105 (lv_at hl 0 rfl) ?_
            refine lv_iload hx hb dL_isMessage_107 (lv_at hl 3 rfl) ?_
            refine lv_icmp_le (tgt := 117) hx hb dL_isMessage_109 (by decide) (fun c_32 => ?_) (fun c_33 => ?_)
            · skip
              refine lv_iload hx hb dL_isMessage_117 (lv_at hl 4 rfl) ?_
              exact J_24 _ (by simp only [vBe]; first | (rw [if_pos ⟨by assumption, by assumption⟩] <;> rfl) | (rw [if_neg (fun h9 => by first | exact absurd (by assumption) h9.2 | (have h8 := h9.1; rw [c_32] at h8; exact absurd h8 (by decide)))] <;> rfl))
            · skip
              refine lv_iload hx hb dL_isMessage_112 (lv_at hl 2 rfl) ?_
              refine lv_goto (tgt := 119) hx hb dL_isMessage_114 (by decide) ?_
              exact J_24 _ (by simp only [vBe]; first | (rw [if_pos ⟨by assumption, by assumption⟩] <;> rfl) | (rw [if_neg (fun h9 => by first | exact absurd (by assumption) h9.2 | (have h8 := h9.1; rw [c_33] at h8; exact absurd h8 (by decide)))] <;> rfl))
        refine lv_if_ne (tgt := 80) hx hb dL_isMessage_58 (by decide) (fun c_34 => ?_) (fun c_35 => ?_)
        · skip
          refine n_iconst hx hb 0 dL_isMessage_80 (by decide) ?_
          exact J_23 _ (by unfold vCan; first | exact bt1 ⟨by assumption, by assumption⟩ | exact bt0 (fun h9 => by first | exact absurd h9.1 (by assumption) | exact absurd h9.2 (by assumption)))
        · skip
          refine lv_iload hx hb dL_isMessage_61 (lv_at hl 0 rfl) ?_
          refine lv_iload_n hx hb dL_isMessage_63 rfl (lv_at hl 5 rfl) ?_
          refine n_iconst hx hb 2 dL_isMessage_64 (by decide) ?_
          refine lv_aload_n hx hb dL_isMessage_65 rfl (lv_at hl 6 rfl) ?_
          refine lv_aload hx hb dL_isMessage_66 (lv_at hl 8 rfl) ?_
          refine lv_aload hx hb dL_isMessage_68 (lv_at hl 9 rfl) ?_
          refine k_roS (As := [.int (nI k), .int (nI mm), .int (nI 2), .ref aq, .ref ar, .ref ab]) (rest := []) (wc := [(aq, .inl (T 0, 12, .inl fq))] ++ [(ar, .inl (T 0, 30, .inl fr))] ++ [(ab, .inl (T 0, 3, .inl fb))]) (d := 1) (v := vBr fq fr fb k mm 2) cx (c_L_brings l G T A aq fq ar fr ab fb k mm 2 (by omega) (by omega) (by omega)) (va_cwS 6 hts gL_isMessage_L_brings rfl rfl rfl (by decide +kernel) ⟨Nat.le_of_ble_eq_true rfl, Nat.le_of_ble_eq_true rfl⟩) (hP.sub (ws' := [(aq, .inl (T 0, 12, .inl fq))] ++ [(ar, .inl (T 0, 30, .inl fr))] ++ [(ab, .inl (T 0, 3, .inl fb))]) [0, 2, 3] rfl) hK (hE.kept hS.2.1) rfl hl.1 rfl (Nat.le_of_ble_eq_true rfl) dL_isMessage_70 ⟨Nat.le_of_ble_eq_true rfl, Nat.le_of_ble_eq_true rfl⟩ ?_
          refine lv_if_ne (tgt := 80) hx hb dL_isMessage_73 (by decide) (fun c_36 => ?_) (fun c_37 => ?_)
          · skip
            refine n_iconst hx hb 0 dL_isMessage_80 (by decide) ?_
            exact J_23 _ (by unfold vCan; first | exact bt1 ⟨by assumption, by assumption⟩ | exact bt0 (fun h9 => by first | exact absurd h9.1 (by assumption) | exact absurd h9.2 (by assumption)))
          · skip
            refine n_iconst hx hb 1 dL_isMessage_76 (by decide) ?_
            refine lv_goto (tgt := 81) hx hb dL_isMessage_77 (by decide) ?_
            exact J_23 _ (by unfold vCan; first | exact bt1 ⟨by assumption, by assumption⟩ | exact bt0 (fun h9 => by first | exact absurd h9.1 (by assumption) | exact absurd h9.2 (by assumption)))
  exact L41 (6 + 1) 0 (by omega) (by omega) _ _ _ rfl rfl rfl _ _ hP hD hS _ (lv_sub hl [0, 1, 2, 3, 4, 5, 6, 7, 8, 9] rfl)
set_option maxHeartbeats 20000000 in
set_option maxRecDepth 100000 in
theorem c_L_isRoom (l : Launch) (G : va_G) (T : Nat → ClassId) (sz : Nat) (aq : Nat) (fq : Nat → Int32) (at9 : Nat) (ft : Nat → Int32) (ar : Nat) (fr : Nat → Int32) (ab : Nat) (fb : Nat → Int32) (tn : Nat → Nat) (w : Nat → Nat) (q : Nat → Nat) (qz : Nat → Nat) (h : Nat → Nat) (qs : Nat → Nat → Nat) (t : Nat → Nat) (gr : Nat → Nat) (u : Nat → Nat) (tr : Nat → Nat) (oc : Nat → Nat) (Sw : Nat → Nat → Int32) (S : Nat → Nat → Int32) (Z : Nat → Nat → Int32) (Sh : Nat → Nat → Int32) (Hs : Nat → Nat → Nat → Int32) (X : Nat → Nat → Int32) (Gg : Nat → Nat → Int32) (U : Nat → Nat → Int32) (K : Nat → Nat → Int32) (O : Nat → Nat → Int32) (rr : Nat) (mm : Nat) (htn : ∀ i : Nat, i < 20 → ft i = nI (tn i)) (htn9 : ∀ i : Nat, i < 20 → tn i < 167772160) (hr6 : rr < 6) (hm20 : mm < 20) (hr0 : pRm S rr 0 = fr (5 * rr)) (hr1 : pRm S rr 1 = fr (5 * rr + 1)) (hr2 : pRm S rr 2 = fr (5 * rr + 2)) (hr3 : pRm S rr 3 = if fr (5 * rr + 1) < fq 4 then nI 0 else nI 1) (hr4 : pRm S rr 4 = fr (5 * rr + 3)) (hr5 : pRm S rr 5 = fr (5 * rr + 4)) (hwy : pWhy S rr mm = vWy fq fr tn rr mm) (hif : ∀ k : Nat, k < 4 → pIf S rr mm k = if vWy fq fr tn rr mm = 0 then vBr fq fr fb rr mm k else -1) : RWi l yL_isRoom wsL_isRoom 7 0 0 G T sz ([(aq, .inl (T 0, 12, .inl fq)), (at9, .inl (T 0, 60, .inl ft)), (ar, .inl (T 0, 30, .inl fr)), (ab, .inl (T 0, 3, .inl fb))] ++ oC T (w, q, qz, h, qs, t, gr, u, tr, oc) (Sw, S, Z, Sh, Hs, X, Gg, U, K, O)) [.ref (w 0), .int (nI rr), .int (nI mm), .ref aq, .ref at9, .ref ar, .ref ab] (nI 1) ([(aq, .inl (T 0, 12, .inl fq)), (at9, .inl (T 0, 60, .inl ft)), (ar, .inl (T 0, 30, .inl fr)), (ab, .inl (T 0, 3, .inl fb))] ++ oC T (w, q, qz, h, qs, t, gr, u, tr, oc) (Sw, S, Z, Sh, Hs, X, Gg, U, K, vIO O S rr mm 4)) := by
  refine Met.ofW (cc := cL_isRoom) (maxL := 10) (ret := (some .boolean)) (by decide) rfl ?_
  intro p e s m args below meth c s₁ B hml hv
  obtain ⟨ha, hsz, hP, hK, hD0, hE0⟩ := hv
  have hx := B.exec
  have hb := B.bytes
  have hr := B.returns
  have hlocks := B.notSynchronized
  have hts := atoms_spec (ws := wsL_isRoom) B.pre
  have hown : s.vm.findClass RL = some m.cls := findClass_of_methodNamed B.named
  have cx : CallFix p m c cL_isRoom 10 s args wsL_isRoom RL := ⟨hx, hb, hml, hown, hts⟩
  subst hsz
  have hD := hD0.self (sz := s.heap.size)
  generalize hAe : va_A ([(aq, .inl (T 0, 12, .inl fq)), (at9, .inl (T 0, 60, .inl ft)), (ar, .inl (T 0, 30, .inl fr)), (ab, .inl (T 0, 3, .inl fb))] ++ oC T (w, q, qz, h, qs, t, gr, u, tr, oc) (Sw, S, Z, Sh, Hs, X, Gg, U, K, O)) s.heap.size = A at hD hE0 ⊢
  have hE : gE A s s.heap := hE0
  have hA : ∀ q : Nat, s.heap.size ≤ q → A q := fun q h => by rw [← hAe]; exact Or.inr h
  have hS : va_S A s.heap s.heap [] := va_S.rf
  refine w_entry ha (Nat.le_of_ble_eq_true rfl) (fun ls hl => ?_)
  refine w_q (fun Q0 hQ => ?_)
  have hl : lv_has ls 10 [(0, .ref (w 0)), (1, .int (nI rr)), (2, .int (nI mm)), (3, .ref aq), (4, .ref at9), (5, .ref ar), (6, .ref ab)] := hl
  have hP : va_P G vwCl ([(aq, .inl (T 0, 12, .inl fq)), (at9, .inl (T 0, 60, .inl ft)), (ar, .inl (T 0, 30, .inl fr)), (ab, .inl (T 0, 3, .inl fb))] ++ oC T (w, q, qz, h, qs, t, gr, u, tr, oc) (Sw, S, Z, Sh, Hs, X, Gg, U, K, O)) s.heap := hP
  have hD : va_D A ([(aq, .inl (T 0, 12, .inl fq)), (at9, .inl (T 0, 60, .inl ft)), (ar, .inl (T 0, 30, .inl fr)), (ab, .inl (T 0, 3, .inl fb))] ++ oC T (w, q, qz, h, qs, t, gr, u, tr, oc) (Sw, S, Z, Sh, Hs, X, Gg, U, K, O)) := hD
  skip
  refine w_h (fun H locs hHe hLe => ?_)
  have hP : va_P G vwCl ([(aq, .inl (T 0, 12, .inl fq)), (at9, .inl (T 0, 60, .inl ft)), (ar, .inl (T 0, 30, .inl fr)), (ab, .inl (T 0, 3, .inl fb))] ++ oC T (w, q, qz, h, qs, t, gr, u, tr, oc) (Sw, S, Z, Sh, Hs, X, Gg, U, K, O)) H := by rw [hHe]; exact hP
  have hS : va_S A s.heap H locs := by rw [hHe, hLe]; exact hS
  refine lv_iload_n hx hb dL_isRoom_0 rfl (lv_at hl 1 rfl) ?_
  refine lv_iload_n hx hb dL_isRoom_1 rfl (lv_at hl 2 rfl) ?_
  refine lv_aload_n hx hb dL_isRoom_2 rfl (lv_at hl 3 rfl) ?_
  refine lv_aload hx hb dL_isRoom_3 (lv_at hl 4 rfl) ?_
  refine lv_aload hx hb dL_isRoom_5 (lv_at hl 5 rfl) ?_
  refine k_roS (As := [.int (nI rr), .int (nI mm), .ref aq, .ref at9, .ref ar]) (rest := []) (wc := [(aq, .inl (T 0, 12, .inl fq))] ++ [(at9, .inl (T 0, 60, .inl ft))] ++ [(ar, .inl (T 0, 30, .inl fr))]) (d := 0) (v := vWy fq fr tn rr mm) cx (c_L_why l G T A aq fq at9 ft ar fr tn rr mm (by first | assumption | rfl | omega) (by omega) (by omega) (by omega)) (va_cwS 5 hts gL_isRoom_L_why rfl rfl rfl (by decide +kernel) ⟨Nat.le_of_ble_eq_true rfl, Nat.le_of_ble_eq_true rfl⟩) (hP.sub (ws' := [(aq, .inl (T 0, 12, .inl fq))] ++ [(at9, .inl (T 0, 60, .inl ft))] ++ [(ar, .inl (T 0, 30, .inl fr))]) [0, 1, 2] rfl) hK (hE.kept hS.2.1) rfl hl.1 rfl (Nat.le_of_ble_eq_true rfl) dL_isRoom_7 ⟨Nat.le_of_ble_eq_true rfl, Nat.le_of_ble_eq_true rfl⟩ ?_
  refine lv_istore (lv' := [(7, .int (vWy fq fr tn rr mm)), (0, .ref (w 0)), (1, .int (nI rr)), (2, .int (nI mm)), (3, .ref aq), (4, .ref at9), (5, .ref ar), (6, .ref ab)]) hx hb dL_isRoom_10 hl (by decide) rfl (fun ls hl => ?_)
  refine lv_aload_n hx hb dL_isRoom_12 rfl (lv_at hl 1 rfl) ?_
  refine lv_iload_n hx hb dL_isRoom_13 rfl (lv_at hl 2 rfl) ?_
  refine n_iconst hx hb 0 dL_isRoom_14 (by decide) ?_
  refine k_lwS (As := [.ref (w 0), .int (nI rr), .int (nI 0)]) (rest := []) (wc := ([(aq, .inl (T 0, 12, .inl fq)), (at9, .inl (T 0, 60, .inl ft)), (ar, .inl (T 0, 30, .inl fr)), (ab, .inl (T 0, 3, .inl fb))] ++ oC T (w, q, qz, h, qs, t, gr, u, tr, oc) (Sw, S, Z, Sh, Hs, X, Gg, U, K, O))) (wr := []) (w1 := ([(aq, .inl (T 0, 12, .inl fq)), (at9, .inl (T 0, 60, .inl ft)), (ar, .inl (T 0, 30, .inl fr)), (ab, .inl (T 0, 3, .inl fb))] ++ oC T (w, q, qz, h, qs, t, gr, u, tr, oc) (Sw, S, Z, Sh, Hs, X, Gg, U, K, O))) (d := 3) (mc := 0) (ms := 0) (v := pRm S rr 0) cx (RWi.fr (c_L_room l G T H.size w q qz h qs t gr u tr oc Sw S Z Sh Hs X Gg U K O rr 0 (by omega) (by omega)) (Fr.head [(aq, .inl (T 0, 12, .inl fq)), (at9, .inl (T 0, 60, .inl ft)), (ar, .inl (T 0, 30, .inl fr)), (ab, .inl (T 0, 3, .inl fb))] (oC T (w, q, qz, h, qs, t, gr, u, tr, oc) (Sw, S, Z, Sh, Hs, X, Gg, U, K, O)) (oC T (w, q, qz, h, qs, t, gr, u, tr, oc) (Sw, S, Z, Sh, Hs, X, Gg, U, K, O)))) (vx_cwSW 3 hts gL_isRoom_L_room rfl rfl rfl (by decide +kernel) ⟨Nat.le_of_ble_eq_true rfl, Nat.le_of_ble_eq_true rfl⟩) (kN_full hP hD hS hA hE hK) rfl hl.1 rfl (Nat.le_of_ble_eq_true rfl) dL_isRoom_15 ⟨Nat.le_of_ble_eq_true rfl, Nat.le_of_ble_eq_true rfl⟩ (fun H locs hP hD hS hz => ?_)
  have hP : va_P G vwCl ([(aq, .inl (T 0, 12, .inl fq)), (at9, .inl (T 0, 60, .inl ft)), (ar, .inl (T 0, 30, .inl fr)), (ab, .inl (T 0, 3, .inl fb))] ++ oC T (w, q, qz, h, qs, t, gr, u, tr, oc) (Sw, S, Z, Sh, Hs, X, Gg, U, K, O)) H := hP
  have hD : va_D A ([(aq, .inl (T 0, 12, .inl fq)), (at9, .inl (T 0, 60, .inl ft)), (ar, .inl (T 0, 30, .inl fr)), (ab, .inl (T 0, 3, .inl fb))] ++ oC T (w, q, qz, h, qs, t, gr, u, tr, oc) (Sw, S, Z, Sh, Hs, X, Gg, U, K, O)) := hD
  refine lv_aload hx hb dL_isRoom_18 (lv_at hl 6 rfl) ?_
  refine n_iconst hx hb 5 dL_isRoom_20 (by decide) ?_
  refine lv_iload_n hx hb dL_isRoom_21 rfl (lv_at hl 2 rfl) ?_
  refine n_imul (a := 5) (b := rr) hx hb dL_isRoom_22 ?_
  refine n_iald hx hb hK hP 2 0 rfl rfl (5 * rr) (by omega) (by decide) dL_isRoom_23 ?_
  refine lv_icmp_ne (tgt := 138) hx hb dL_isRoom_24 (by decide) (fun c_1 => by exfalso; exact c_1 hr0) (fun c_2 => ?_)
  refine lv_aload_n hx hb dL_isRoom_27 rfl (lv_at hl 1 rfl) ?_
  refine lv_iload_n hx hb dL_isRoom_28 rfl (lv_at hl 2 rfl) ?_
  refine n_iconst hx hb 1 dL_isRoom_29 (by decide) ?_
  refine k_lwS (As := [.ref (w 0), .int (nI rr), .int (nI 1)]) (rest := []) (wc := ([(aq, .inl (T 0, 12, .inl fq)), (at9, .inl (T 0, 60, .inl ft)), (ar, .inl (T 0, 30, .inl fr)), (ab, .inl (T 0, 3, .inl fb))] ++ oC T (w, q, qz, h, qs, t, gr, u, tr, oc) (Sw, S, Z, Sh, Hs, X, Gg, U, K, O))) (wr := []) (w1 := ([(aq, .inl (T 0, 12, .inl fq)), (at9, .inl (T 0, 60, .inl ft)), (ar, .inl (T 0, 30, .inl fr)), (ab, .inl (T 0, 3, .inl fb))] ++ oC T (w, q, qz, h, qs, t, gr, u, tr, oc) (Sw, S, Z, Sh, Hs, X, Gg, U, K, O))) (d := 3) (mc := 0) (ms := 0) (v := pRm S rr 1) cx (RWi.fr (c_L_room l G T H.size w q qz h qs t gr u tr oc Sw S Z Sh Hs X Gg U K O rr 1 (by omega) (by omega)) (Fr.head [(aq, .inl (T 0, 12, .inl fq)), (at9, .inl (T 0, 60, .inl ft)), (ar, .inl (T 0, 30, .inl fr)), (ab, .inl (T 0, 3, .inl fb))] (oC T (w, q, qz, h, qs, t, gr, u, tr, oc) (Sw, S, Z, Sh, Hs, X, Gg, U, K, O)) (oC T (w, q, qz, h, qs, t, gr, u, tr, oc) (Sw, S, Z, Sh, Hs, X, Gg, U, K, O)))) (vx_cwSW 3 hts gL_isRoom_L_room rfl rfl rfl (by decide +kernel) ⟨Nat.le_of_ble_eq_true rfl, Nat.le_of_ble_eq_true rfl⟩) (kN_full hP hD hS hA hE hK) rfl hl.1 rfl (Nat.le_of_ble_eq_true rfl) dL_isRoom_30 ⟨Nat.le_of_ble_eq_true rfl, Nat.le_of_ble_eq_true rfl⟩ (fun H locs hP hD hS hz => ?_)
  have hP : va_P G vwCl ([(aq, .inl (T 0, 12, .inl fq)), (at9, .inl (T 0, 60, .inl ft)), (ar, .inl (T 0, 30, .inl fr)), (ab, .inl (T 0, 3, .inl fb))] ++ oC T (w, q, qz, h, qs, t, gr, u, tr, oc) (Sw, S, Z, Sh, Hs, X, Gg, U, K, O)) H := hP
  have hD : va_D A ([(aq, .inl (T 0, 12, .inl fq)), (at9, .inl (T 0, 60, .inl ft)), (ar, .inl (T 0, 30, .inl fr)), (ab, .inl (T 0, 3, .inl fb))] ++ oC T (w, q, qz, h, qs, t, gr, u, tr, oc) (Sw, S, Z, Sh, Hs, X, Gg, U, K, O)) := hD
  refine lv_aload hx hb dL_isRoom_33 (lv_at hl 6 rfl) ?_
  refine n_iconst hx hb 5 dL_isRoom_35 (by decide) ?_
  refine lv_iload_n hx hb dL_isRoom_36 rfl (lv_at hl 2 rfl) ?_
  refine n_imul (a := 5) (b := rr) hx hb dL_isRoom_37 ?_
  refine n_iconst hx hb 1 dL_isRoom_38 (by decide) ?_
  refine n_iadd (a := 5 * rr) (b := 1) hx hb dL_isRoom_39 ?_
  refine n_iald hx hb hK hP 2 0 rfl rfl (5 * rr + 1) (by omega) (by decide) dL_isRoom_40 ?_
  refine lv_icmp_ne (tgt := 138) hx hb dL_isRoom_41 (by decide) (fun c_3 => by exfalso; exact c_3 hr1) (fun c_4 => ?_)
  refine lv_aload_n hx hb dL_isRoom_44 rfl (lv_at hl 1 rfl) ?_
  refine lv_iload_n hx hb dL_isRoom_45 rfl (lv_at hl 2 rfl) ?_
  refine n_iconst hx hb 2 dL_isRoom_46 (by decide) ?_
  refine k_lwS (As := [.ref (w 0), .int (nI rr), .int (nI 2)]) (rest := []) (wc := ([(aq, .inl (T 0, 12, .inl fq)), (at9, .inl (T 0, 60, .inl ft)), (ar, .inl (T 0, 30, .inl fr)), (ab, .inl (T 0, 3, .inl fb))] ++ oC T (w, q, qz, h, qs, t, gr, u, tr, oc) (Sw, S, Z, Sh, Hs, X, Gg, U, K, O))) (wr := []) (w1 := ([(aq, .inl (T 0, 12, .inl fq)), (at9, .inl (T 0, 60, .inl ft)), (ar, .inl (T 0, 30, .inl fr)), (ab, .inl (T 0, 3, .inl fb))] ++ oC T (w, q, qz, h, qs, t, gr, u, tr, oc) (Sw, S, Z, Sh, Hs, X, Gg, U, K, O))) (d := 3) (mc := 0) (ms := 0) (v := pRm S rr 2) cx (RWi.fr (c_L_room l G T H.size w q qz h qs t gr u tr oc Sw S Z Sh Hs X Gg U K O rr 2 (by omega) (by omega)) (Fr.head [(aq, .inl (T 0, 12, .inl fq)), (at9, .inl (T 0, 60, .inl ft)), (ar, .inl (T 0, 30, .inl fr)), (ab, .inl (T 0, 3, .inl fb))] (oC T (w, q, qz, h, qs, t, gr, u, tr, oc) (Sw, S, Z, Sh, Hs, X, Gg, U, K, O)) (oC T (w, q, qz, h, qs, t, gr, u, tr, oc) (Sw, S, Z, Sh, Hs, X, Gg, U, K, O)))) (vx_cwSW 3 hts gL_isRoom_L_room rfl rfl rfl (by decide +kernel) ⟨Nat.le_of_ble_eq_true rfl, Nat.le_of_ble_eq_true rfl⟩) (kN_full hP hD hS hA hE hK) rfl hl.1 rfl (Nat.le_of_ble_eq_true rfl) dL_isRoom_47 ⟨Nat.le_of_ble_eq_true rfl, Nat.le_of_ble_eq_true rfl⟩ (fun H locs hP hD hS hz => ?_)
  have hP : va_P G vwCl ([(aq, .inl (T 0, 12, .inl fq)), (at9, .inl (T 0, 60, .inl ft)), (ar, .inl (T 0, 30, .inl fr)), (ab, .inl (T 0, 3, .inl fb))] ++ oC T (w, q, qz, h, qs, t, gr, u, tr, oc) (Sw, S, Z, Sh, Hs, X, Gg, U, K, O)) H := hP
  have hD : va_D A ([(aq, .inl (T 0, 12, .inl fq)), (at9, .inl (T 0, 60, .inl ft)), (ar, .inl (T 0, 30, .inl fr)), (ab, .inl (T 0, 3, .inl fb))] ++ oC T (w, q, qz, h, qs, t, gr, u, tr, oc) (Sw, S, Z, Sh, Hs, X, Gg, U, K, O)) := hD
  refine lv_aload hx hb dL_isRoom_50 (lv_at hl 6 rfl) ?_
  refine n_iconst hx hb 5 dL_isRoom_52 (by decide) ?_
  refine lv_iload_n hx hb dL_isRoom_53 rfl (lv_at hl 2 rfl) ?_
  refine n_imul (a := 5) (b := rr) hx hb dL_isRoom_54 ?_
  refine n_iconst hx hb 2 dL_isRoom_55 (by decide) ?_
  refine n_iadd (a := 5 * rr) (b := 2) hx hb dL_isRoom_56 ?_
  refine n_iald hx hb hK hP 2 0 rfl rfl (5 * rr + 2) (by omega) (by decide) dL_isRoom_57 ?_
  refine lv_icmp_ne (tgt := 138) hx hb dL_isRoom_58 (by decide) (fun c_5 => by exfalso; exact c_5 hr2) (fun c_6 => ?_)
  refine lv_aload_n hx hb dL_isRoom_61 rfl (lv_at hl 1 rfl) ?_
  refine lv_iload_n hx hb dL_isRoom_62 rfl (lv_at hl 2 rfl) ?_
  refine n_iconst hx hb 3 dL_isRoom_63 (by decide) ?_
  refine k_lwS (As := [.ref (w 0), .int (nI rr), .int (nI 3)]) (rest := []) (wc := ([(aq, .inl (T 0, 12, .inl fq)), (at9, .inl (T 0, 60, .inl ft)), (ar, .inl (T 0, 30, .inl fr)), (ab, .inl (T 0, 3, .inl fb))] ++ oC T (w, q, qz, h, qs, t, gr, u, tr, oc) (Sw, S, Z, Sh, Hs, X, Gg, U, K, O))) (wr := []) (w1 := ([(aq, .inl (T 0, 12, .inl fq)), (at9, .inl (T 0, 60, .inl ft)), (ar, .inl (T 0, 30, .inl fr)), (ab, .inl (T 0, 3, .inl fb))] ++ oC T (w, q, qz, h, qs, t, gr, u, tr, oc) (Sw, S, Z, Sh, Hs, X, Gg, U, K, O))) (d := 3) (mc := 0) (ms := 0) (v := pRm S rr 3) cx (RWi.fr (c_L_room l G T H.size w q qz h qs t gr u tr oc Sw S Z Sh Hs X Gg U K O rr 3 (by omega) (by omega)) (Fr.head [(aq, .inl (T 0, 12, .inl fq)), (at9, .inl (T 0, 60, .inl ft)), (ar, .inl (T 0, 30, .inl fr)), (ab, .inl (T 0, 3, .inl fb))] (oC T (w, q, qz, h, qs, t, gr, u, tr, oc) (Sw, S, Z, Sh, Hs, X, Gg, U, K, O)) (oC T (w, q, qz, h, qs, t, gr, u, tr, oc) (Sw, S, Z, Sh, Hs, X, Gg, U, K, O)))) (vx_cwSW 3 hts gL_isRoom_L_room rfl rfl rfl (by decide +kernel) ⟨Nat.le_of_ble_eq_true rfl, Nat.le_of_ble_eq_true rfl⟩) (kN_full hP hD hS hA hE hK) rfl hl.1 rfl (Nat.le_of_ble_eq_true rfl) dL_isRoom_64 ⟨Nat.le_of_ble_eq_true rfl, Nat.le_of_ble_eq_true rfl⟩ (fun H locs hP hD hS hz => ?_)
  have hP : va_P G vwCl ([(aq, .inl (T 0, 12, .inl fq)), (at9, .inl (T 0, 60, .inl ft)), (ar, .inl (T 0, 30, .inl fr)), (ab, .inl (T 0, 3, .inl fb))] ++ oC T (w, q, qz, h, qs, t, gr, u, tr, oc) (Sw, S, Z, Sh, Hs, X, Gg, U, K, O)) H := hP
  have hD : va_D A ([(aq, .inl (T 0, 12, .inl fq)), (at9, .inl (T 0, 60, .inl ft)), (ar, .inl (T 0, 30, .inl fr)), (ab, .inl (T 0, 3, .inl fb))] ++ oC T (w, q, qz, h, qs, t, gr, u, tr, oc) (Sw, S, Z, Sh, Hs, X, Gg, U, K, O)) := hD
  refine lv_aload hx hb dL_isRoom_67 (lv_at hl 6 rfl) ?_
  refine n_iconst hx hb 5 dL_isRoom_69 (by decide) ?_
  refine lv_iload_n hx hb dL_isRoom_70 rfl (lv_at hl 2 rfl) ?_
  refine n_imul (a := 5) (b := rr) hx hb dL_isRoom_71 ?_
  refine n_iconst hx hb 1 dL_isRoom_72 (by decide) ?_
  refine n_iadd (a := 5 * rr) (b := 1) hx hb dL_isRoom_73 ?_
  refine n_iald hx hb hK hP 2 0 rfl rfl (5 * rr + 1) (by omega) (by decide) dL_isRoom_74 ?_
  refine lv_aload_n hx hb dL_isRoom_75 rfl (lv_at hl 4 rfl) ?_
  refine n_iconst hx hb 4 dL_isRoom_76 (by decide) ?_
  refine n_iald hx hb hK hP 0 0 rfl rfl 4 (by decide) (by decide) dL_isRoom_77 ?_
  have J_7 : ∀ y9 : Int32, y9 = (if fr (5 * rr + 1) < fq 4 then nI 0 else nI 1) → W p l e (headSpec wsL_isRoom (rmD 7 0 0)).room s m args below meth c H locs 0 0 Q0 (F0 m 86 ls (.int y9 :: .int (pRm S rr 3) :: [])) := by
    intro y9 hy9
    subst hy9
    refine lv_icmp_ne (tgt := 138) hx hb dL_isRoom_86 (by decide) (fun c_8 => by exfalso; exact c_8 hr3) (fun c_9 => ?_)
    refine lv_aload_n hx hb dL_isRoom_89 rfl (lv_at hl 1 rfl) ?_
    refine lv_iload_n hx hb dL_isRoom_90 rfl (lv_at hl 2 rfl) ?_
    refine n_iconst hx hb 4 dL_isRoom_91 (by decide) ?_
    refine k_lwS (As := [.ref (w 0), .int (nI rr), .int (nI 4)]) (rest := []) (wc := ([(aq, .inl (T 0, 12, .inl fq)), (at9, .inl (T 0, 60, .inl ft)), (ar, .inl (T 0, 30, .inl fr)), (ab, .inl (T 0, 3, .inl fb))] ++ oC T (w, q, qz, h, qs, t, gr, u, tr, oc) (Sw, S, Z, Sh, Hs, X, Gg, U, K, O))) (wr := []) (w1 := ([(aq, .inl (T 0, 12, .inl fq)), (at9, .inl (T 0, 60, .inl ft)), (ar, .inl (T 0, 30, .inl fr)), (ab, .inl (T 0, 3, .inl fb))] ++ oC T (w, q, qz, h, qs, t, gr, u, tr, oc) (Sw, S, Z, Sh, Hs, X, Gg, U, K, O))) (d := 3) (mc := 0) (ms := 0) (v := pRm S rr 4) cx (RWi.fr (c_L_room l G T H.size w q qz h qs t gr u tr oc Sw S Z Sh Hs X Gg U K O rr 4 (by omega) (by omega)) (Fr.head [(aq, .inl (T 0, 12, .inl fq)), (at9, .inl (T 0, 60, .inl ft)), (ar, .inl (T 0, 30, .inl fr)), (ab, .inl (T 0, 3, .inl fb))] (oC T (w, q, qz, h, qs, t, gr, u, tr, oc) (Sw, S, Z, Sh, Hs, X, Gg, U, K, O)) (oC T (w, q, qz, h, qs, t, gr, u, tr, oc) (Sw, S, Z, Sh, Hs, X, Gg, U, K, O)))) (vx_cwSW 3 hts gL_isRoom_L_room rfl rfl rfl (by decide +kernel) ⟨Nat.le_of_ble_eq_true rfl, Nat.le_of_ble_eq_true rfl⟩) (kN_full hP hD hS hA hE hK) rfl hl.1 rfl (Nat.le_of_ble_eq_true rfl) dL_isRoom_92 ⟨Nat.le_of_ble_eq_true rfl, Nat.le_of_ble_eq_true rfl⟩ (fun H locs hP hD hS hz => ?_)
    have hP : va_P G vwCl ([(aq, .inl (T 0, 12, .inl fq)), (at9, .inl (T 0, 60, .inl ft)), (ar, .inl (T 0, 30, .inl fr)), (ab, .inl (T 0, 3, .inl fb))] ++ oC T (w, q, qz, h, qs, t, gr, u, tr, oc) (Sw, S, Z, Sh, Hs, X, Gg, U, K, O)) H := hP
    have hD : va_D A ([(aq, .inl (T 0, 12, .inl fq)), (at9, .inl (T 0, 60, .inl ft)), (ar, .inl (T 0, 30, .inl fr)), (ab, .inl (T 0, 3, .inl fb))] ++ oC T (w, q, qz, h, qs, t, gr, u, tr, oc) (Sw, S, Z, Sh, Hs, X, Gg, U, K, O)) := hD
    refine lv_aload hx hb dL_isRoom_95 (lv_at hl 6 rfl) ?_
    refine n_iconst hx hb 5 dL_isRoom_97 (by decide) ?_
    refine lv_iload_n hx hb dL_isRoom_98 rfl (lv_at hl 2 rfl) ?_
    refine n_imul (a := 5) (b := rr) hx hb dL_isRoom_99 ?_
    refine n_iconst hx hb 3 dL_isRoom_100 (by decide) ?_
    refine n_iadd (a := 5 * rr) (b := 3) hx hb dL_isRoom_101 ?_
    refine n_iald hx hb hK hP 2 0 rfl rfl (5 * rr + 3) (by omega) (by decide) dL_isRoom_102 ?_
    refine lv_icmp_ne (tgt := 138) hx hb dL_isRoom_103 (by decide) (fun c_10 => by exfalso; exact c_10 hr4) (fun c_11 => ?_)
    refine lv_aload_n hx hb dL_isRoom_106 rfl (lv_at hl 1 rfl) ?_
    refine lv_iload_n hx hb dL_isRoom_107 rfl (lv_at hl 2 rfl) ?_
    refine n_iconst hx hb 5 dL_isRoom_108 (by decide) ?_
    refine k_lwS (As := [.ref (w 0), .int (nI rr), .int (nI 5)]) (rest := []) (wc := ([(aq, .inl (T 0, 12, .inl fq)), (at9, .inl (T 0, 60, .inl ft)), (ar, .inl (T 0, 30, .inl fr)), (ab, .inl (T 0, 3, .inl fb))] ++ oC T (w, q, qz, h, qs, t, gr, u, tr, oc) (Sw, S, Z, Sh, Hs, X, Gg, U, K, O))) (wr := []) (w1 := ([(aq, .inl (T 0, 12, .inl fq)), (at9, .inl (T 0, 60, .inl ft)), (ar, .inl (T 0, 30, .inl fr)), (ab, .inl (T 0, 3, .inl fb))] ++ oC T (w, q, qz, h, qs, t, gr, u, tr, oc) (Sw, S, Z, Sh, Hs, X, Gg, U, K, O))) (d := 3) (mc := 0) (ms := 0) (v := pRm S rr 5) cx (RWi.fr (c_L_room l G T H.size w q qz h qs t gr u tr oc Sw S Z Sh Hs X Gg U K O rr 5 (by omega) (by omega)) (Fr.head [(aq, .inl (T 0, 12, .inl fq)), (at9, .inl (T 0, 60, .inl ft)), (ar, .inl (T 0, 30, .inl fr)), (ab, .inl (T 0, 3, .inl fb))] (oC T (w, q, qz, h, qs, t, gr, u, tr, oc) (Sw, S, Z, Sh, Hs, X, Gg, U, K, O)) (oC T (w, q, qz, h, qs, t, gr, u, tr, oc) (Sw, S, Z, Sh, Hs, X, Gg, U, K, O)))) (vx_cwSW 3 hts gL_isRoom_L_room rfl rfl rfl (by decide +kernel) ⟨Nat.le_of_ble_eq_true rfl, Nat.le_of_ble_eq_true rfl⟩) (kN_full hP hD hS hA hE hK) rfl hl.1 rfl (Nat.le_of_ble_eq_true rfl) dL_isRoom_109 ⟨Nat.le_of_ble_eq_true rfl, Nat.le_of_ble_eq_true rfl⟩ (fun H locs hP hD hS hz => ?_)
    have hP : va_P G vwCl ([(aq, .inl (T 0, 12, .inl fq)), (at9, .inl (T 0, 60, .inl ft)), (ar, .inl (T 0, 30, .inl fr)), (ab, .inl (T 0, 3, .inl fb))] ++ oC T (w, q, qz, h, qs, t, gr, u, tr, oc) (Sw, S, Z, Sh, Hs, X, Gg, U, K, O)) H := hP
    have hD : va_D A ([(aq, .inl (T 0, 12, .inl fq)), (at9, .inl (T 0, 60, .inl ft)), (ar, .inl (T 0, 30, .inl fr)), (ab, .inl (T 0, 3, .inl fb))] ++ oC T (w, q, qz, h, qs, t, gr, u, tr, oc) (Sw, S, Z, Sh, Hs, X, Gg, U, K, O)) := hD
    refine lv_aload hx hb dL_isRoom_112 (lv_at hl 6 rfl) ?_
    refine n_iconst hx hb 5 dL_isRoom_114 (by decide) ?_
    refine lv_iload_n hx hb dL_isRoom_115 rfl (lv_at hl 2 rfl) ?_
    refine n_imul (a := 5) (b := rr) hx hb dL_isRoom_116 ?_
    refine n_iconst hx hb 4 dL_isRoom_117 (by decide) ?_
    refine n_iadd (a := 5 * rr) (b := 4) hx hb dL_isRoom_118 ?_
    refine n_iald hx hb hK hP 2 0 rfl rfl (5 * rr + 4) (by omega) (by decide) dL_isRoom_119 ?_
    refine lv_icmp_ne (tgt := 138) hx hb dL_isRoom_120 (by decide) (fun c_12 => by exfalso; exact c_12 hr5) (fun c_13 => ?_)
    refine lv_aload_n hx hb dL_isRoom_123 rfl (lv_at hl 1 rfl) ?_
    refine lv_iload_n hx hb dL_isRoom_124 rfl (lv_at hl 2 rfl) ?_
    refine lv_iload_n hx hb dL_isRoom_125 rfl (lv_at hl 3 rfl) ?_
    refine k_lwS (As := [.ref (w 0), .int (nI rr), .int (nI mm)]) (rest := []) (wc := ([(aq, .inl (T 0, 12, .inl fq)), (at9, .inl (T 0, 60, .inl ft)), (ar, .inl (T 0, 30, .inl fr)), (ab, .inl (T 0, 3, .inl fb))] ++ oC T (w, q, qz, h, qs, t, gr, u, tr, oc) (Sw, S, Z, Sh, Hs, X, Gg, U, K, O))) (wr := []) (w1 := ([(aq, .inl (T 0, 12, .inl fq)), (at9, .inl (T 0, 60, .inl ft)), (ar, .inl (T 0, 30, .inl fr)), (ab, .inl (T 0, 3, .inl fb))] ++ oC T (w, q, qz, h, qs, t, gr, u, tr, oc) (Sw, S, Z, Sh, Hs, X, Gg, U, K, O))) (d := 4) (mc := 0) (ms := 0) (v := pWhy S rr mm) cx (RWi.fr (c_L_whyNot l G T H.size w q qz h qs t gr u tr oc Sw S Z Sh Hs X Gg U K O rr mm (by omega) (by omega)) (Fr.head [(aq, .inl (T 0, 12, .inl fq)), (at9, .inl (T 0, 60, .inl ft)), (ar, .inl (T 0, 30, .inl fr)), (ab, .inl (T 0, 3, .inl fb))] (oC T (w, q, qz, h, qs, t, gr, u, tr, oc) (Sw, S, Z, Sh, Hs, X, Gg, U, K, O)) (oC T (w, q, qz, h, qs, t, gr, u, tr, oc) (Sw, S, Z, Sh, Hs, X, Gg, U, K, O)))) (vx_cwSW 3 hts gL_isRoom_L_whyNot rfl rfl rfl (by decide +kernel) ⟨Nat.le_of_ble_eq_true rfl, Nat.le_of_ble_eq_true rfl⟩) (kN_full hP hD hS hA hE hK) rfl hl.1 rfl (Nat.le_of_ble_eq_true rfl) dL_isRoom_126 ⟨Nat.le_of_ble_eq_true rfl, Nat.le_of_ble_eq_true rfl⟩ (fun H locs hP hD hS hz => ?_)
    have hP : va_P G vwCl ([(aq, .inl (T 0, 12, .inl fq)), (at9, .inl (T 0, 60, .inl ft)), (ar, .inl (T 0, 30, .inl fr)), (ab, .inl (T 0, 3, .inl fb))] ++ oC T (w, q, qz, h, qs, t, gr, u, tr, oc) (Sw, S, Z, Sh, Hs, X, Gg, U, K, O)) H := hP
    have hD : va_D A ([(aq, .inl (T 0, 12, .inl fq)), (at9, .inl (T 0, 60, .inl ft)), (ar, .inl (T 0, 30, .inl fr)), (ab, .inl (T 0, 3, .inl fb))] ++ oC T (w, q, qz, h, qs, t, gr, u, tr, oc) (Sw, S, Z, Sh, Hs, X, Gg, U, K, O)) := hD
    refine lv_iload hx hb dL_isRoom_129 (lv_at hl 0 rfl) ?_
    refine lv_icmp_ne (tgt := 138) hx hb dL_isRoom_131 (by decide) (fun c_14 => by exfalso; exact c_14 hwy) (fun c_15 => ?_)
    refine n_iconst hx hb 1 dL_isRoom_134 (by decide) ?_
    refine lv_goto (tgt := 139) hx hb dL_isRoom_135 (by decide) ?_
    refine lv_istore (lv' := [(8, .int (nI 1)), (7, .int (vWy fq fr tn rr mm)), (0, .ref (w 0)), (1, .int (nI rr)), (2, .int (nI mm)), (3, .ref aq), (4, .ref at9), (5, .ref ar), (6, .ref ab)]) hx hb dL_isRoom_139 hl (by decide) rfl (fun ls hl => ?_)
    refine n_iconst hx hb 0 dL_isRoom_141 (by decide) ?_
    refine lv_istore (lv' := [(9, .int (nI 0)), (8, .int (nI 1)), (7, .int (vWy fq fr tn rr mm)), (0, .ref (w 0)), (1, .int (nI rr)), (2, .int (nI mm)), (3, .ref aq), (4, .ref at9), (5, .ref ar), (6, .ref ab)]) hx hb dL_isRoom_142 hl (by decide) rfl (fun ls hl => ?_)
    have L144 : ∀ (n9 k : Nat) (hk1 : k ≤ 4) (hk2 : 4 - k < n9) (x9 : Int32) (B_16 : Nat → Nat → Int32) (hx9 : x9 = nI k) (hB_16 : B_16 = vIO O S rr mm k) (H : Heap) (locs : List Loc) (hP : va_P G vwCl ([(aq, .inl (T 0, 12, .inl fq)), (at9, .inl (T 0, 60, .inl ft)), (ar, .inl (T 0, 30, .inl fr)), (ab, .inl (T 0, 3, .inl fb))] ++ oC T (w, q, qz, h, qs, t, gr, u, tr, oc) (Sw, S, Z, Sh, Hs, X, Gg, U, K, B_16)) H) (hD : va_D A ([(aq, .inl (T 0, 12, .inl fq)), (at9, .inl (T 0, 60, .inl ft)), (ar, .inl (T 0, 30, .inl fr)), (ab, .inl (T 0, 3, .inl fb))] ++ oC T (w, q, qz, h, qs, t, gr, u, tr, oc) (Sw, S, Z, Sh, Hs, X, Gg, U, K, B_16))) (hS : va_S A s.heap H locs) (ls : Array Slot) (hl : lv_has ls 10 [(9, .int x9), (8, .int (nI 1)), (7, .int (vWy fq fr tn rr mm)), (0, .ref (w 0)), (1, .int (nI rr)), (2, .int (nI mm)), (3, .ref aq), (4, .ref at9), (5, .ref ar), (6, .ref ab)]), W p l e (headSpec wsL_isRoom (rmD 7 0 0)).room s m args below meth c H locs 0 0 Q0 (F0 m 144 ls []) := by
      intro n9
      induction n9 with
      | zero => intros; omega
      | succ n9 ih144 =>
        intro k hk1 hk2 x9 B_16 hx9 hB_16 H locs hP hD hS ls hl
        subst hx9 hB_16
        refine lv_iload hx hb dL_isRoom_144 (lv_at hl 0 rfl) ?_
        refine n_iconst hx hb 4 dL_isRoom_146 (by decide) ?_
        refine n_icmp_ge (a := k) (b := 4) (tgt := 200) hx hb (by omega) (by decide) dL_isRoom_147 (by decide) (fun c_17 => ?_) (fun c_18 => ?_)
        · skip
          obtain rfl : k = 4 := (by omega)
          refine lv_iload hx hb dL_isRoom_200 (lv_at hl 1 rfl) ?_
          subst hQ
          have hP9 : va_P G vwCl ([(aq, .inl (T 0, 12, .inl fq)), (at9, .inl (T 0, 60, .inl ft)), (ar, .inl (T 0, 30, .inl fr)), (ab, .inl (T 0, 3, .inl fb))] ++ oC T (w, q, qz, h, qs, t, gr, u, tr, oc) (Sw, S, Z, Sh, Hs, X, Gg, U, K, vIO O S rr mm 4)) H := hP
          have hD9 : va_D A ([(aq, .inl (T 0, 12, .inl fq)), (at9, .inl (T 0, 60, .inl ft)), (ar, .inl (T 0, 30, .inl fr)), (ab, .inl (T 0, 3, .inl fb))] ++ oC T (w, q, qz, h, qs, t, gr, u, tr, oc) (Sw, S, Z, Sh, Hs, X, Gg, U, K, vIO O S rr mm 4)) := hD
          exact e_rwz hx hb hr hlocks (by first | rfl | exact nar_b _) hS rfl hP9 hD9 dL_isRoom_202
        · skip
          refine lv_iload hx hb dL_isRoom_150 (lv_at hl 1 rfl) ?_
          refine n_if_eq (a := 1) (tgt := 191) hx hb (by decide) dL_isRoom_152 (by decide) (fun h9 => absurd h9 (by decide)) (fun c_19 => ?_)
          refine lv_aload_n hx hb dL_isRoom_155 rfl (lv_at hl 3 rfl) ?_
          refine lv_iload_n hx hb dL_isRoom_156 rfl (lv_at hl 4 rfl) ?_
          refine lv_iload_n hx hb dL_isRoom_157 rfl (lv_at hl 5 rfl) ?_
          refine lv_iload hx hb dL_isRoom_158 (lv_at hl 0 rfl) ?_
          refine k_lwS (As := [.ref (w 0), .int (nI rr), .int (nI mm), .int (nI k)]) (rest := []) (wc := ([(aq, .inl (T 0, 12, .inl fq)), (at9, .inl (T 0, 60, .inl ft)), (ar, .inl (T 0, 30, .inl fr)), (ab, .inl (T 0, 3, .inl fb))] ++ oC T (w, q, qz, h, qs, t, gr, u, tr, oc) (Sw, S, Z, Sh, Hs, X, Gg, U, K, vIO O S rr mm k))) (wr := []) (w1 := ([(aq, .inl (T 0, 12, .inl fq)), (at9, .inl (T 0, 60, .inl ft)), (ar, .inl (T 0, 30, .inl fr)), (ab, .inl (T 0, 3, .inl fb))] ++ oC T (w, q, qz, h, qs, t, gr, u, tr, oc) (Sw, S, Z, Sh, Hs, X, Gg, U, K, pIfO (vIO O S rr mm k) S rr mm))) (d := 5) (mc := 0) (ms := 0) (v := pIf S rr mm k) cx (RWi.fr (c_L_ifWhistled l G T H.size w q qz h qs t gr u tr oc Sw S Z Sh Hs X Gg U K (vIO O S rr mm k) rr mm k (by omega) (by omega) (by omega)) (Fr.head [(aq, .inl (T 0, 12, .inl fq)), (at9, .inl (T 0, 60, .inl ft)), (ar, .inl (T 0, 30, .inl fr)), (ab, .inl (T 0, 3, .inl fb))] (oC T (w, q, qz, h, qs, t, gr, u, tr, oc) (Sw, S, Z, Sh, Hs, X, Gg, U, K, vIO O S rr mm k)) (oC T (w, q, qz, h, qs, t, gr, u, tr, oc) (Sw, S, Z, Sh, Hs, X, Gg, U, K, pIfO (vIO O S rr mm k) S rr mm)))) (vx_cwSW 4 hts gL_isRoom_L_ifWhistled rfl rfl rfl (by decide +kernel) ⟨Nat.le_of_ble_eq_true rfl, Nat.le_of_ble_eq_true rfl⟩) (kN_full hP hD hS hA hE hK) rfl hl.1 rfl (Nat.le_of_ble_eq_true rfl) dL_isRoom_160 ⟨Nat.le_of_ble_eq_true rfl, Nat.le_of_ble_eq_true rfl⟩ (fun H locs hP hD hS hz => ?_)
          have hP : va_P G vwCl ([(aq, .inl (T 0, 12, .inl fq)), (at9, .inl (T 0, 60, .inl ft)), (ar, .inl (T 0, 30, .inl fr)), (ab, .inl (T 0, 3, .inl fb))] ++ oC T (w, q, qz, h, qs, t, gr, u, tr, oc) (Sw, S, Z, Sh, Hs, X, Gg, U, K, pIfO (vIO O S rr mm k) S rr mm)) H := hP
          have hD : va_D A ([(aq, .inl (T 0, 12, .inl fq)), (at9, .inl (T 0, 60, .inl ft)), (ar, .inl (T 0, 30, .inl fr)), (ab, .inl (T 0, 3, .inl fb))] ++ oC T (w, q, qz, h, qs, t, gr, u, tr, oc) (Sw, S, Z, Sh, Hs, X, Gg, U, K, pIfO (vIO O S rr mm k) S rr mm)) := hD
          refine lv_iload hx hb dL_isRoom_163 (lv_at hl 2 rfl) ?_
          refine lv_if_le (tgt := 172) hx hb dL_isRoom_165 (by decide) (fun c_20 => ?_) (fun c_21 => ?_)
          · skip
            have hw0 := vWy_le c_20
            refine lv_iload_n hx hb dL_isRoom_172 rfl (lv_at hl 4 rfl) ?_
            refine lv_iload_n hx hb dL_isRoom_173 rfl (lv_at hl 5 rfl) ?_
            refine lv_iload hx hb dL_isRoom_174 (lv_at hl 0 rfl) ?_
            refine lv_aload_n hx hb dL_isRoom_176 rfl (lv_at hl 6 rfl) ?_
            refine lv_aload hx hb dL_isRoom_177 (lv_at hl 8 rfl) ?_
            refine lv_aload hx hb dL_isRoom_179 (lv_at hl 9 rfl) ?_
            refine k_roS (As := [.int (nI rr), .int (nI mm), .int (nI k), .ref aq, .ref ar, .ref ab]) (rest := [.int (pIf S rr mm k)]) (wc := [(aq, .inl (T 0, 12, .inl fq))] ++ [(ar, .inl (T 0, 30, .inl fr))] ++ [(ab, .inl (T 0, 3, .inl fb))]) (d := 1) (v := vBr fq fr fb rr mm k) cx (c_L_brings l G T A aq fq ar fr ab fb rr mm k (by omega) (by omega) (by omega)) (va_cwS 6 hts gL_isRoom_L_brings rfl rfl rfl (by decide +kernel) ⟨Nat.le_of_ble_eq_true rfl, Nat.le_of_ble_eq_true rfl⟩) (hP.sub (ws' := [(aq, .inl (T 0, 12, .inl fq))] ++ [(ar, .inl (T 0, 30, .inl fr))] ++ [(ab, .inl (T 0, 3, .inl fb))]) [0, 2, 3] rfl) hK (hE.kept hS.2.1) rfl hl.1 rfl (Nat.le_of_ble_eq_true rfl) dL_isRoom_181 ⟨Nat.le_of_ble_eq_true rfl, Nat.le_of_ble_eq_true rfl⟩ ?_
            refine lv_icmp_ne (tgt := 191) hx hb dL_isRoom_184 (by decide) (fun c_22 => by exfalso; exact c_22 ((hif k (by omega)).trans (by first | rw [if_pos hw0] | rw [if_neg hw1]))) (fun c_23 => ?_)
            refine n_iconst hx hb 1 dL_isRoom_187 (by decide) ?_
            refine lv_goto (tgt := 192) hx hb dL_isRoom_188 (by decide) ?_
            refine lv_istore (lv' := [(8, .int (nI 1)), (9, .int (nI k)), (7, .int (vWy fq fr tn rr mm)), (0, .ref (w 0)), (1, .int (nI rr)), (2, .int (nI mm)), (3, .ref aq), (4, .ref at9), (5, .ref ar), (6, .ref ab)]) hx hb dL_isRoom_192 hl (by decide) rfl (fun ls hl => ?_)
            refine lv_iinc (v := nI (k + 1)) (lv' := [(9, .int (nI (k + 1))), (8, .int (nI 1)), (7, .int (vWy fq fr tn rr mm)), (0, .ref (w 0)), (1, .int (nI rr)), (2, .int (nI mm)), (3, .ref aq), (4, .ref at9), (5, .ref ar), (6, .ref ab)]) hx hb dL_isRoom_194 hl (k := 1) rfl (n_inc k 1 rfl) (by decide) rfl (fun ls hl => ?_)
            refine lv_goto (tgt := 144) hx hb dL_isRoom_197 (by decide) ?_
            have e_24 : (pIfO (vIO O S rr mm k) S rr mm) = vIO O S rr mm (k + 1) := rfl
            exact ih144 (k + 1) (by omega) (by omega) _ _ rfl e_24 _ _ hP hD hS _ (lv_sub hl [0, 1, 2, 3, 4, 5, 6, 7, 8, 9] rfl)
          · skip
            have hw1 := vWy_nle c_21
            refine lv_iconst (v := -1) hx hb dL_isRoom_168 (by decide) ?_
            refine lv_goto (tgt := 184) hx hb dL_isRoom_169 (by decide) ?_
            refine lv_icmp_ne (tgt := 191) hx hb dL_isRoom_184 (by decide) (fun c_25 => by exfalso; exact c_25 ((hif k (by omega)).trans (by first | rw [if_pos hw0] | rw [if_neg hw1]))) (fun c_26 => ?_)
            refine n_iconst hx hb 1 dL_isRoom_187 (by decide) ?_
            refine lv_goto (tgt := 192) hx hb dL_isRoom_188 (by decide) ?_
            refine lv_istore (lv' := [(8, .int (nI 1)), (9, .int (nI k)), (7, .int (vWy fq fr tn rr mm)), (0, .ref (w 0)), (1, .int (nI rr)), (2, .int (nI mm)), (3, .ref aq), (4, .ref at9), (5, .ref ar), (6, .ref ab)]) hx hb dL_isRoom_192 hl (by decide) rfl (fun ls hl => ?_)
            refine lv_iinc (v := nI (k + 1)) (lv' := [(9, .int (nI (k + 1))), (8, .int (nI 1)), (7, .int (vWy fq fr tn rr mm)), (0, .ref (w 0)), (1, .int (nI rr)), (2, .int (nI mm)), (3, .ref aq), (4, .ref at9), (5, .ref ar), (6, .ref ab)]) hx hb dL_isRoom_194 hl (k := 1) rfl (n_inc k 1 rfl) (by decide) rfl (fun ls hl => ?_)
            refine lv_goto (tgt := 144) hx hb dL_isRoom_197 (by decide) ?_
            have e_27 : (pIfO (vIO O S rr mm k) S rr mm) = vIO O S rr mm (k + 1) := rfl
            exact ih144 (k + 1) (by omega) (by omega) _ _ rfl e_27 _ _ hP hD hS _ (lv_sub hl [0, 1, 2, 3, 4, 5, 6, 7, 8, 9] rfl)
    exact L144 (4 + 1) 0 (by omega) (by omega) _ _ rfl rfl _ _ hP hD hS _ (lv_sub hl [0, 1, 2, 3, 4, 5, 6, 7, 8, 9] rfl)
  refine lv_icmp_lt (tgt := 85) hx hb dL_isRoom_78 (by decide) (fun c_28 => ?_) (fun c_29 => ?_)
  · skip
    refine n_iconst hx hb 0 dL_isRoom_85 (by decide) ?_
    exact J_7 _ (by first | rw [if_pos c_28] | rw [if_neg c_28])
  · skip
    refine n_iconst hx hb 1 dL_isRoom_81 (by decide) ?_
    refine lv_goto (tgt := 86) hx hb dL_isRoom_82 (by decide) ?_
    exact J_7 _ (by first | rw [if_pos c_29] | rw [if_neg c_29])
set_option maxHeartbeats 40000000 in
set_option maxRecDepth 100000 in
theorem c_L_decodes (l : Launch) (G : va_G) (T : Nat → ClassId) (sz : Nat) (aq : Nat) (fq : Nat → Int32) (at9 : Nat) (ft : Nat → Int32) (ar : Nat) (fr : Nat → Int32) (ab : Nat) (fb : Nat → Int32) (tn : Nat → Nat) (w : Nat → Nat) (q : Nat → Nat) (qz : Nat → Nat) (h : Nat → Nat) (qs : Nat → Nat → Nat) (t : Nat → Nat) (gr : Nat → Nat) (u : Nat → Nat) (tr : Nat → Nat) (oc : Nat → Nat) (Sw : Nat → Nat → Int32) (S : Nat → Nat → Int32) (Z : Nat → Nat → Int32) (Sh : Nat → Nat → Int32) (Hs : Nat → Nat → Nat → Int32) (X : Nat → Nat → Int32) (Gg : Nat → Nat → Int32) (U : Nat → Nat → Int32) (K : Nat → Nat → Int32) (O : Nat → Nat → Int32) (n : Nat) (tl : Nat → Nat) (cd : Nat → Nat) (xx : Int32) (htn : ∀ i : Nat, i < 20 → ft i = nI (tn i)) (htn9 : ∀ i : Nat, i < 20 → tn i < 167772160) (htl : ∀ i : Nat, i < 20 → S 6 i = nI (tl i)) (htl8 : ∀ i : Nat, i < 20 → tl i ≤ 8) (hlen : X 0 1 = nI n) (hn60 : n ≤ 60) (hcd : ∀ i : Nat, i < (dcE xx tn X).2.1 → (dcE xx tn X).1 1 i = nI (cd i)) (hc127 : ∀ i : Nat, i < (dcE xx tn X).2.1 → cd i < 127) (hbT : bT cd (dcE xx tn X).2.1 = true) (hd0 : ∀ U9 : Nat → Nat → Int32, pDT S tl (rTu U9 cd (dcE xx tn X).2.1) (ntT cd (dcE xx tn X).2.1 U9) (nI (loN xx 7)) = (vDr tn (dcE xx tn X).2.2 (loN xx 7) 20).1) (hd1 : ∀ U9 : Nat → Nat → Int32, pDM S tl (rTu U9 cd (dcE xx tn X).2.1) (ntT cd (dcE xx tn X).2.1 U9) (nI (loN xx 7)) = (vDr tn (dcE xx tn X).2.2 (loN xx 7) 20).1) (hd2 : ∀ U9 : Nat → Nat → Int32, pKO S tl (rTu U9 cd (dcE xx tn X).2.1) (ntT cd (dcE xx tn X).2.1 U9) = (vDr tn (dcE xx tn X).2.2 (loN xx 7) 20).2) (hte : gEr cd (dcE xx tn X).2.1 4 false = (dcE xx tn X).2.1) : RWi l yL_decodes wsL_decodes 16 0 0 G T sz ([(aq, .inl (T 0, 12, .inl fq)), (at9, .inl (T 0, 60, .inl ft)), (ar, .inl (T 0, 30, .inl fr)), (ab, .inl (T 0, 3, .inl fb))] ++ oC T (w, q, qz, h, qs, t, gr, u, tr, oc) (Sw, S, Z, Sh, Hs, X, Gg, U, K, O)) [.ref (w 0), .int xx, .ref at9] (nI 1) ([(aq, .inl (T 0, 12, .inl fq)), (at9, .inl (T 0, 60, .inl ft)), (ar, .inl (T 0, 30, .inl fr)), (ab, .inl (T 0, 3, .inl fb))] ++ oC T (w, q, qz, h, qs, t, gr, u, tr, oc) (Sw, S, Z, Sh, Hs, xCl (dcE xx tn X).1, dGg Gg cd (dcE xx tn X).2.1, dUu U cd (dcE xx tn X).2.1, dKk K S U tl cd (dcE xx tn X).2.1, O)) := by
  refine Met.ofW (cc := cL_decodes) (maxL := 11) (ret := (some .boolean)) (by decide) rfl ?_
  intro p e s m args below meth c s₁ B hml hv
  obtain ⟨ha, hsz, hP, hK, hD0, hE0⟩ := hv
  have hx := B.exec
  have hb := B.bytes
  have hr := B.returns
  have hlocks := B.notSynchronized
  have hts := atoms_spec (ws := wsL_decodes) B.pre
  have hown : s.vm.findClass RL = some m.cls := findClass_of_methodNamed B.named
  have cx : CallFix p m c cL_decodes 11 s args wsL_decodes RL := ⟨hx, hb, hml, hown, hts⟩
  subst hsz
  have hD := hD0.self (sz := s.heap.size)
  generalize hAe : va_A ([(aq, .inl (T 0, 12, .inl fq)), (at9, .inl (T 0, 60, .inl ft)), (ar, .inl (T 0, 30, .inl fr)), (ab, .inl (T 0, 3, .inl fb))] ++ oC T (w, q, qz, h, qs, t, gr, u, tr, oc) (Sw, S, Z, Sh, Hs, X, Gg, U, K, O)) s.heap.size = A at hD hE0 ⊢
  have hE : gE A s s.heap := hE0
  have hA : ∀ q : Nat, s.heap.size ≤ q → A q := fun q h => by rw [← hAe]; exact Or.inr h
  have hS : va_S A s.heap s.heap [] := va_S.rf
  refine w_entry ha (Nat.le_of_ble_eq_true rfl) (fun ls hl => ?_)
  refine w_q (fun Q0 hQ => ?_)
  have hl : lv_has ls 11 [(0, .ref (w 0)), (1, .int xx), (2, .ref at9)] := hl
  have hP : va_P G vwCl ([(aq, .inl (T 0, 12, .inl fq)), (at9, .inl (T 0, 60, .inl ft)), (ar, .inl (T 0, 30, .inl fr)), (ab, .inl (T 0, 3, .inl fb))] ++ oC T (w, q, qz, h, qs, t, gr, u, tr, oc) (Sw, S, Z, Sh, Hs, X, Gg, U, K, O)) s.heap := hP
  have hD : va_D A ([(aq, .inl (T 0, 12, .inl fq)), (at9, .inl (T 0, 60, .inl ft)), (ar, .inl (T 0, 30, .inl fr)), (ab, .inl (T 0, 3, .inl fb))] ++ oC T (w, q, qz, h, qs, t, gr, u, tr, oc) (Sw, S, Z, Sh, Hs, X, Gg, U, K, O)) := hD
  skip
  have hk7 := loN_lt xx (n := 7) (by decide)
  have hk8 := loN_lt (iShr xx (nI 8)) (n := 3) (by decide)
  have hm20 := loN_lt (iShr xx (nI 3)) (n := 20) (by decide)
  have htm := htn9 (loN (iShr xx (nI 3)) 20) hm20
  have hmm9 := uMy_9 htm
  obtain ⟨hE20, hEtu, hlE⟩ := dcE_b (xx := xx) (tn := tn) (X := X) htm
  have hty := tyE_pos (iShr xx (nI 9)) X
  have hge := gEr_le cd (dcE xx tn X).2.1 4 false
  obtain ⟨-, htyb, -⟩ := tyE_b (iShr xx (nI 9)) X
  refine w_h (fun H locs hHe hLe => ?_)
  have hP : va_P G vwCl ([(aq, .inl (T 0, 12, .inl fq)), (at9, .inl (T 0, 60, .inl ft)), (ar, .inl (T 0, 30, .inl fr)), (ab, .inl (T 0, 3, .inl fb))] ++ oC T (w, q, qz, h, qs, t, gr, u, tr, oc) (Sw, S, Z, Sh, Hs, X, Gg, U, K, O)) H := by rw [hHe]; exact hP
  have hS : va_S A s.heap H locs := by rw [hHe, hLe]; exact hS
  refine lv_iload_n hx hb dL_decodes_0 rfl (lv_at hl 1 rfl) ?_
  refine lv_bipush (v := nI 7) hx hb dL_decodes_1 (by decide) ?_
  refine k_roS (As := [.int xx, .int (nI 7)]) (rest := []) (wc := []) (d := 0) (v := nI (loN xx 7)) cx (c_L_low l G T A xx 7 (by omega) (by omega)) (va_cwS 2 hts gL_decodes_L_low rfl rfl rfl (by decide +kernel) ⟨Nat.le_of_ble_eq_true rfl, Nat.le_of_ble_eq_true rfl⟩) (hP.sub (ws' := []) [] rfl) hK (hE.kept hS.2.1) rfl hl.1 rfl (Nat.le_of_ble_eq_true rfl) dL_decodes_3 ⟨Nat.le_of_ble_eq_true rfl, Nat.le_of_ble_eq_true rfl⟩ ?_
  refine lv_istore_n (lv' := [(3, .int (nI (loN xx 7))), (0, .ref (w 0)), (1, .int xx), (2, .ref at9)]) hx hb dL_decodes_6 rfl hl (by decide) rfl (fun ls hl => ?_)
  refine lv_iload_n hx hb dL_decodes_7 rfl (lv_at hl 2 rfl) ?_
  refine n_iconst hx hb 3 dL_decodes_8 (by decide) ?_
  refine x_ishr hx hb dL_decodes_9 ?_
  refine lv_bipush (v := nI 20) hx hb dL_decodes_10 (by decide) ?_
  refine k_roS (As := [.int (iShr xx (nI 3)), .int (nI 20)]) (rest := []) (wc := []) (d := 0) (v := nI (loN (iShr xx (nI 3)) 20)) cx (c_L_low l G T A (iShr xx (nI 3)) 20 (by omega) (by omega)) (va_cwS 2 hts gL_decodes_L_low rfl rfl rfl (by decide +kernel) ⟨Nat.le_of_ble_eq_true rfl, Nat.le_of_ble_eq_true rfl⟩) (hP.sub (ws' := []) [] rfl) hK (hE.kept hS.2.1) rfl hl.1 rfl (Nat.le_of_ble_eq_true rfl) dL_decodes_12 ⟨Nat.le_of_ble_eq_true rfl, Nat.le_of_ble_eq_true rfl⟩ ?_
  refine lv_istore (lv' := [(4, .int (nI (loN (iShr xx (nI 3)) 20))), (3, .int (nI (loN xx 7))), (0, .ref (w 0)), (1, .int xx), (2, .ref at9)]) hx hb dL_decodes_15 hl (by decide) rfl (fun ls hl => ?_)
  refine lv_iload_n hx hb dL_decodes_17 rfl (lv_at hl 3 rfl) ?_
  refine lv_bipush (v := nI 8) hx hb dL_decodes_18 (by decide) ?_
  refine x_ishr hx hb dL_decodes_20 ?_
  refine n_iconst hx hb 3 dL_decodes_21 (by decide) ?_
  refine k_roS (As := [.int (iShr xx (nI 8)), .int (nI 3)]) (rest := []) (wc := []) (d := 0) (v := nI (loN (iShr xx (nI 8)) 3)) cx (c_L_low l G T A (iShr xx (nI 8)) 3 (by omega) (by omega)) (va_cwS 2 hts gL_decodes_L_low rfl rfl rfl (by decide +kernel) ⟨Nat.le_of_ble_eq_true rfl, Nat.le_of_ble_eq_true rfl⟩) (hP.sub (ws' := []) [] rfl) hK (hE.kept hS.2.1) rfl hl.1 rfl (Nat.le_of_ble_eq_true rfl) dL_decodes_22 ⟨Nat.le_of_ble_eq_true rfl, Nat.le_of_ble_eq_true rfl⟩ ?_
  have J126 : ∀ (H : Heap) (locs : List Loc) (hP : va_P G vwCl ([(aq, .inl (T 0, 12, .inl fq)), (at9, .inl (T 0, 60, .inl ft)), (ar, .inl (T 0, 30, .inl fr)), (ab, .inl (T 0, 3, .inl fb))] ++ oC T (w, q, qz, h, qs, t, gr, u, tr, oc) (Sw, S, Z, Sh, Hs, (dcE xx tn X).1, Gg, U, K, O)) H) (hD : va_D A ([(aq, .inl (T 0, 12, .inl fq)), (at9, .inl (T 0, 60, .inl ft)), (ar, .inl (T 0, 30, .inl fr)), (ab, .inl (T 0, 3, .inl fb))] ++ oC T (w, q, qz, h, qs, t, gr, u, tr, oc) (Sw, S, Z, Sh, Hs, (dcE xx tn X).1, Gg, U, K, O))) (hS : va_S A s.heap H locs) (ls : Array Slot) (hl : lv_has ls 11 [(4, .int (nI (loN (iShr xx (nI 3)) 20))), (3, .int (nI (loN xx 7))), (0, .ref (w 0)), (1, .int xx), (2, .ref at9), (5, .int (nI (dcE xx tn X).2.2))]), W p l e (headSpec wsL_decodes (rmD 16 0 0)).room s m args below meth c H locs 0 0 Q0 (F0 m 126 ls []) := by
    intro H locs hP hD hS ls hl
    refine lv_iconst (v := -1) hx hb dL_decodes_126 (by decide) ?_
    refine lv_istore (lv' := [(6, .int (-1)), (4, .int (nI (loN (iShr xx (nI 3)) 20))), (3, .int (nI (loN xx 7))), (0, .ref (w 0)), (1, .int xx), (2, .ref at9), (5, .int (nI (dcE xx tn X).2.2))]) hx hb dL_decodes_127 hl (by decide) rfl (fun ls hl => ?_)
    refine lv_iconst (v := -1) hx hb dL_decodes_129 (by decide) ?_
    refine lv_istore (lv' := [(7, .int (-1)), (6, .int (-1)), (4, .int (nI (loN (iShr xx (nI 3)) 20))), (3, .int (nI (loN xx 7))), (0, .ref (w 0)), (1, .int xx), (2, .ref at9), (5, .int (nI (dcE xx tn X).2.2))]) hx hb dL_decodes_130 hl (by decide) rfl (fun ls hl => ?_)
    refine n_iconst hx hb 0 dL_decodes_132 (by decide) ?_
    refine lv_istore (lv' := [(8, .int (nI 0)), (7, .int (-1)), (6, .int (-1)), (4, .int (nI (loN (iShr xx (nI 3)) 20))), (3, .int (nI (loN xx 7))), (0, .ref (w 0)), (1, .int xx), (2, .ref at9), (5, .int (nI (dcE xx tn X).2.2))]) hx hb dL_decodes_133 hl (by decide) rfl (fun ls hl => ?_)
    have L135 : ∀ (n9 k : Nat) (hk1 : k ≤ 20) (hk2 : 20 - k < n9) (x8 : Int32) (x7 : Int32) (x6 : Int32) (hx8 : x8 = nI k) (hx7 : x7 = (vDr tn (dcE xx tn X).2.2 (loN xx 7) k).2) (hx6 : x6 = (vDr tn (dcE xx tn X).2.2 (loN xx 7) k).1) (H : Heap) (locs : List Loc) (hP : va_P G vwCl ([(aq, .inl (T 0, 12, .inl fq)), (at9, .inl (T 0, 60, .inl ft)), (ar, .inl (T 0, 30, .inl fr)), (ab, .inl (T 0, 3, .inl fb))] ++ oC T (w, q, qz, h, qs, t, gr, u, tr, oc) (Sw, S, Z, Sh, Hs, (dcE xx tn X).1, Gg, U, K, O)) H) (hD : va_D A ([(aq, .inl (T 0, 12, .inl fq)), (at9, .inl (T 0, 60, .inl ft)), (ar, .inl (T 0, 30, .inl fr)), (ab, .inl (T 0, 3, .inl fb))] ++ oC T (w, q, qz, h, qs, t, gr, u, tr, oc) (Sw, S, Z, Sh, Hs, (dcE xx tn X).1, Gg, U, K, O))) (hS : va_S A s.heap H locs) (ls : Array Slot) (hl : lv_has ls 11 [(8, .int x8), (7, .int x7), (6, .int x6), (4, .int (nI (loN (iShr xx (nI 3)) 20))), (3, .int (nI (loN xx 7))), (0, .ref (w 0)), (1, .int xx), (2, .ref at9), (5, .int (nI (dcE xx tn X).2.2))]), W p l e (headSpec wsL_decodes (rmD 16 0 0)).room s m args below meth c H locs 0 0 Q0 (F0 m 135 ls []) := by
      intro n9
      induction n9 with
      | zero => intros; omega
      | succ n9 ih135 =>
        intro k hk1 hk2 x8 x7 x6 hx8 hx7 hx6 H locs hP hD hS ls hl
        subst hx8 hx7 hx6
        have hmE := uMy_9 hEtu
        have hu0 := uNt_lt (dcE xx tn X).2.2 0
        refine lv_iload hx hb dL_decodes_135 (lv_at hl 0 rfl) ?_
        refine lv_bipush (v := nI 20) hx hb dL_decodes_137 (by decide) ?_
        refine n_icmp_ge (a := k) (b := 20) (tgt := 243) hx hb (by omega) (by decide) dL_decodes_139 (by decide) (fun c_1 => ?_) (fun c_2 => ?_)
        · skip
          obtain rfl : k = 20 := (by omega)
          refine lv_aload_n hx hb dL_decodes_243 rfl (lv_at hl 5 rfl) ?_
          refine lv_iload_n hx hb dL_decodes_244 rfl (lv_at hl 4 rfl) ?_
          refine n_iconst hx hb 0 dL_decodes_245 (by decide) ?_
          refine k_lwS (As := [.ref (w 0), .int (nI (loN xx 7)), .int (nI 0)]) (rest := []) (wc := ([(aq, .inl (T 0, 12, .inl fq)), (at9, .inl (T 0, 60, .inl ft)), (ar, .inl (T 0, 30, .inl fr)), (ab, .inl (T 0, 3, .inl fb))] ++ oC T (w, q, qz, h, qs, t, gr, u, tr, oc) (Sw, S, Z, Sh, Hs, (dcE xx tn X).1, Gg, U, K, O))) (wr := []) (w1 := ([(aq, .inl (T 0, 12, .inl fq)), (at9, .inl (T 0, 60, .inl ft)), (ar, .inl (T 0, 30, .inl fr)), (ab, .inl (T 0, 3, .inl fb))] ++ oC T (w, q, qz, h, qs, t, gr, u, tr, oc) (Sw, S, Z, Sh, Hs, (dcE xx tn X).1, gGr Gg cd (dcE xx tn X).2.1 4 false, rTu U cd (dcE xx tn X).2.1, gTO K S tl (ntT cd (dcE xx tn X).2.1 U), O))) (d := 14) (mc := 0) (ms := 0) (v := pDT S tl (rTu U cd (dcE xx tn X).2.1) (ntT cd (dcE xx tn X).2.1 U) (nI (loN xx 7))) cx (RWi.fr (c_L_decode_0 l G T H.size w q qz h qs t gr u tr oc Sw S Z Sh Hs (dcE xx tn X).1 Gg U K O (dcE xx tn X).2.1 cd tl (loN xx 7) hlE (by omega) hcd hc127 htl htl8 (by omega) hbT) (Fr.head [(aq, .inl (T 0, 12, .inl fq)), (at9, .inl (T 0, 60, .inl ft)), (ar, .inl (T 0, 30, .inl fr)), (ab, .inl (T 0, 3, .inl fb))] (oC T (w, q, qz, h, qs, t, gr, u, tr, oc) (Sw, S, Z, Sh, Hs, (dcE xx tn X).1, Gg, U, K, O)) (oC T (w, q, qz, h, qs, t, gr, u, tr, oc) (Sw, S, Z, Sh, Hs, (dcE xx tn X).1, gGr Gg cd (dcE xx tn X).2.1 4 false, rTu U cd (dcE xx tn X).2.1, gTO K S tl (ntT cd (dcE xx tn X).2.1 U), O)))) (vx_cwSW 3 hts gL_decodes_L_decode rfl rfl rfl (by decide +kernel) ⟨Nat.le_of_ble_eq_true rfl, Nat.le_of_ble_eq_true rfl⟩) (kN_full hP hD hS hA hE hK) rfl hl.1 rfl (Nat.le_of_ble_eq_true rfl) dL_decodes_246 ⟨Nat.le_of_ble_eq_true rfl, Nat.le_of_ble_eq_true rfl⟩ (fun H locs hP hD hS hz => ?_)
          have hP : va_P G vwCl ([(aq, .inl (T 0, 12, .inl fq)), (at9, .inl (T 0, 60, .inl ft)), (ar, .inl (T 0, 30, .inl fr)), (ab, .inl (T 0, 3, .inl fb))] ++ oC T (w, q, qz, h, qs, t, gr, u, tr, oc) (Sw, S, Z, Sh, Hs, (dcE xx tn X).1, gGr Gg cd (dcE xx tn X).2.1 4 false, rTu U cd (dcE xx tn X).2.1, gTO K S tl (ntT cd (dcE xx tn X).2.1 U), O)) H := hP
          have hD : va_D A ([(aq, .inl (T 0, 12, .inl fq)), (at9, .inl (T 0, 60, .inl ft)), (ar, .inl (T 0, 30, .inl fr)), (ab, .inl (T 0, 3, .inl fb))] ++ oC T (w, q, qz, h, qs, t, gr, u, tr, oc) (Sw, S, Z, Sh, Hs, (dcE xx tn X).1, gGr Gg cd (dcE xx tn X).2.1 4 false, rTu U cd (dcE xx tn X).2.1, gTO K S tl (ntT cd (dcE xx tn X).2.1 U), O)) := hD
          refine lv_iload hx hb dL_decodes_249 (lv_at hl 2 rfl) ?_
          refine lv_icmp_ne (tgt := 289) hx hb dL_decodes_251 (by decide) (fun c_3 => by exfalso; exact c_3 (hd0 _)) (fun c_4 => ?_)
          refine lv_aload_n hx hb dL_decodes_254 rfl (lv_at hl 5 rfl) ?_
          refine lv_iload_n hx hb dL_decodes_255 rfl (lv_at hl 4 rfl) ?_
          refine n_iconst hx hb 1 dL_decodes_256 (by decide) ?_
          refine k_lwS (As := [.ref (w 0), .int (nI (loN xx 7)), .int (nI 1)]) (rest := []) (wc := ([(aq, .inl (T 0, 12, .inl fq)), (at9, .inl (T 0, 60, .inl ft)), (ar, .inl (T 0, 30, .inl fr)), (ab, .inl (T 0, 3, .inl fb))] ++ oC T (w, q, qz, h, qs, t, gr, u, tr, oc) (Sw, S, Z, Sh, Hs, (dcE xx tn X).1, gGr Gg cd (dcE xx tn X).2.1 4 false, rTu U cd (dcE xx tn X).2.1, gTO K S tl (ntT cd (dcE xx tn X).2.1 U), O))) (wr := []) (w1 := ([(aq, .inl (T 0, 12, .inl fq)), (at9, .inl (T 0, 60, .inl ft)), (ar, .inl (T 0, 30, .inl fr)), (ab, .inl (T 0, 3, .inl fb))] ++ oC T (w, q, qz, h, qs, t, gr, u, tr, oc) (Sw, S, Z, Sh, Hs, (dcE xx tn X).1, gGr (gGr Gg cd (dcE xx tn X).2.1 4 false) cd (dcE xx tn X).2.1 4 false, rTu (rTu U cd (dcE xx tn X).2.1) cd (dcE xx tn X).2.1, gTO K S tl (ntT cd (dcE xx tn X).2.1 U), O))) (d := 14) (mc := 0) (ms := 0) (v := pDM S tl (rTu (rTu U cd (dcE xx tn X).2.1) cd (dcE xx tn X).2.1) (ntT cd (dcE xx tn X).2.1 (rTu U cd (dcE xx tn X).2.1)) (nI (loN xx 7))) cx (RWi.fr (c_L_decode_1 l G T H.size w q qz h qs t gr u tr oc Sw S Z Sh Hs (dcE xx tn X).1 (gGr Gg cd (dcE xx tn X).2.1 4 false) (rTu U cd (dcE xx tn X).2.1) (gTO K S tl (ntT cd (dcE xx tn X).2.1 U)) O (dcE xx tn X).2.1 cd tl (loN xx 7) hlE (by omega) hcd hc127 htl htl8 (by omega) hbT) (Fr.head [(aq, .inl (T 0, 12, .inl fq)), (at9, .inl (T 0, 60, .inl ft)), (ar, .inl (T 0, 30, .inl fr)), (ab, .inl (T 0, 3, .inl fb))] (oC T (w, q, qz, h, qs, t, gr, u, tr, oc) (Sw, S, Z, Sh, Hs, (dcE xx tn X).1, gGr Gg cd (dcE xx tn X).2.1 4 false, rTu U cd (dcE xx tn X).2.1, gTO K S tl (ntT cd (dcE xx tn X).2.1 U), O)) (oC T (w, q, qz, h, qs, t, gr, u, tr, oc) (Sw, S, Z, Sh, Hs, (dcE xx tn X).1, gGr (gGr Gg cd (dcE xx tn X).2.1 4 false) cd (dcE xx tn X).2.1 4 false, rTu (rTu U cd (dcE xx tn X).2.1) cd (dcE xx tn X).2.1, gTO K S tl (ntT cd (dcE xx tn X).2.1 U), O)))) (vx_cwSW 3 hts gL_decodes_L_decode rfl rfl rfl (by decide +kernel) ⟨Nat.le_of_ble_eq_true rfl, Nat.le_of_ble_eq_true rfl⟩) (kN_full hP hD hS hA hE hK) rfl hl.1 rfl (Nat.le_of_ble_eq_true rfl) dL_decodes_257 ⟨Nat.le_of_ble_eq_true rfl, Nat.le_of_ble_eq_true rfl⟩ (fun H locs hP hD hS hz => ?_)
          have hP : va_P G vwCl ([(aq, .inl (T 0, 12, .inl fq)), (at9, .inl (T 0, 60, .inl ft)), (ar, .inl (T 0, 30, .inl fr)), (ab, .inl (T 0, 3, .inl fb))] ++ oC T (w, q, qz, h, qs, t, gr, u, tr, oc) (Sw, S, Z, Sh, Hs, (dcE xx tn X).1, gGr (gGr Gg cd (dcE xx tn X).2.1 4 false) cd (dcE xx tn X).2.1 4 false, rTu (rTu U cd (dcE xx tn X).2.1) cd (dcE xx tn X).2.1, gTO K S tl (ntT cd (dcE xx tn X).2.1 U), O)) H := hP
          have hD : va_D A ([(aq, .inl (T 0, 12, .inl fq)), (at9, .inl (T 0, 60, .inl ft)), (ar, .inl (T 0, 30, .inl fr)), (ab, .inl (T 0, 3, .inl fb))] ++ oC T (w, q, qz, h, qs, t, gr, u, tr, oc) (Sw, S, Z, Sh, Hs, (dcE xx tn X).1, gGr (gGr Gg cd (dcE xx tn X).2.1 4 false) cd (dcE xx tn X).2.1 4 false, rTu (rTu U cd (dcE xx tn X).2.1) cd (dcE xx tn X).2.1, gTO K S tl (ntT cd (dcE xx tn X).2.1 U), O)) := hD
          refine lv_iload hx hb dL_decodes_260 (lv_at hl 2 rfl) ?_
          refine lv_icmp_ne (tgt := 289) hx hb dL_decodes_262 (by decide) (fun c_5 => by exfalso; exact c_5 (hd1 _)) (fun c_6 => ?_)
          refine lv_aload_n hx hb dL_decodes_265 rfl (lv_at hl 5 rfl) ?_
          refine k_lwS (As := [.ref (w 0)]) (rest := []) (wc := ([(aq, .inl (T 0, 12, .inl fq)), (at9, .inl (T 0, 60, .inl ft)), (ar, .inl (T 0, 30, .inl fr)), (ab, .inl (T 0, 3, .inl fb))] ++ oC T (w, q, qz, h, qs, t, gr, u, tr, oc) (Sw, S, Z, Sh, Hs, (dcE xx tn X).1, gGr (gGr Gg cd (dcE xx tn X).2.1 4 false) cd (dcE xx tn X).2.1 4 false, rTu (rTu U cd (dcE xx tn X).2.1) cd (dcE xx tn X).2.1, gTO K S tl (ntT cd (dcE xx tn X).2.1 U), O))) (wr := []) (w1 := ([(aq, .inl (T 0, 12, .inl fq)), (at9, .inl (T 0, 60, .inl ft)), (ar, .inl (T 0, 30, .inl fr)), (ab, .inl (T 0, 3, .inl fb))] ++ oC T (w, q, qz, h, qs, t, gr, u, tr, oc) (Sw, S, Z, Sh, Hs, (dcE xx tn X).1, gGr (gGr (gGr Gg cd (dcE xx tn X).2.1 4 false) cd (dcE xx tn X).2.1 4 false) cd (dcE xx tn X).2.1 4 false, rTu (rTu (rTu U cd (dcE xx tn X).2.1) cd (dcE xx tn X).2.1) cd (dcE xx tn X).2.1, gTO (gTO K S tl (ntT cd (dcE xx tn X).2.1 U)) S tl (ntT cd (dcE xx tn X).2.1 (rTu (rTu U cd (dcE xx tn X).2.1) cd (dcE xx tn X).2.1)), O))) (d := 14) (mc := 0) (ms := 0) (v := pKO S tl (rTu (rTu (rTu U cd (dcE xx tn X).2.1) cd (dcE xx tn X).2.1) cd (dcE xx tn X).2.1) (ntT cd (dcE xx tn X).2.1 (rTu (rTu U cd (dcE xx tn X).2.1) cd (dcE xx tn X).2.1))) cx (RWi.fr (c_L_keyOf l G T H.size w q qz h qs t gr u tr oc Sw S Z Sh Hs (dcE xx tn X).1 (gGr (gGr Gg cd (dcE xx tn X).2.1 4 false) cd (dcE xx tn X).2.1 4 false) (rTu (rTu U cd (dcE xx tn X).2.1) cd (dcE xx tn X).2.1) (gTO K S tl (ntT cd (dcE xx tn X).2.1 U)) O (dcE xx tn X).2.1 cd tl hlE (by omega) hcd hc127 htl htl8 hbT) (Fr.head [(aq, .inl (T 0, 12, .inl fq)), (at9, .inl (T 0, 60, .inl ft)), (ar, .inl (T 0, 30, .inl fr)), (ab, .inl (T 0, 3, .inl fb))] (oC T (w, q, qz, h, qs, t, gr, u, tr, oc) (Sw, S, Z, Sh, Hs, (dcE xx tn X).1, gGr (gGr Gg cd (dcE xx tn X).2.1 4 false) cd (dcE xx tn X).2.1 4 false, rTu (rTu U cd (dcE xx tn X).2.1) cd (dcE xx tn X).2.1, gTO K S tl (ntT cd (dcE xx tn X).2.1 U), O)) (oC T (w, q, qz, h, qs, t, gr, u, tr, oc) (Sw, S, Z, Sh, Hs, (dcE xx tn X).1, gGr (gGr (gGr Gg cd (dcE xx tn X).2.1 4 false) cd (dcE xx tn X).2.1 4 false) cd (dcE xx tn X).2.1 4 false, rTu (rTu (rTu U cd (dcE xx tn X).2.1) cd (dcE xx tn X).2.1) cd (dcE xx tn X).2.1, gTO (gTO K S tl (ntT cd (dcE xx tn X).2.1 U)) S tl (ntT cd (dcE xx tn X).2.1 (rTu (rTu U cd (dcE xx tn X).2.1) cd (dcE xx tn X).2.1)), O)))) (vx_cwSW 1 hts gL_decodes_L_keyOf rfl rfl rfl (by decide +kernel) ⟨Nat.le_of_ble_eq_true rfl, Nat.le_of_ble_eq_true rfl⟩) (kN_full hP hD hS hA hE hK) rfl hl.1 rfl (Nat.le_of_ble_eq_true rfl) dL_decodes_266 ⟨Nat.le_of_ble_eq_true rfl, Nat.le_of_ble_eq_true rfl⟩ (fun H locs hP hD hS hz => ?_)
          have hP : va_P G vwCl ([(aq, .inl (T 0, 12, .inl fq)), (at9, .inl (T 0, 60, .inl ft)), (ar, .inl (T 0, 30, .inl fr)), (ab, .inl (T 0, 3, .inl fb))] ++ oC T (w, q, qz, h, qs, t, gr, u, tr, oc) (Sw, S, Z, Sh, Hs, (dcE xx tn X).1, gGr (gGr (gGr Gg cd (dcE xx tn X).2.1 4 false) cd (dcE xx tn X).2.1 4 false) cd (dcE xx tn X).2.1 4 false, rTu (rTu (rTu U cd (dcE xx tn X).2.1) cd (dcE xx tn X).2.1) cd (dcE xx tn X).2.1, gTO (gTO K S tl (ntT cd (dcE xx tn X).2.1 U)) S tl (ntT cd (dcE xx tn X).2.1 (rTu (rTu U cd (dcE xx tn X).2.1) cd (dcE xx tn X).2.1)), O)) H := hP
          have hD : va_D A ([(aq, .inl (T 0, 12, .inl fq)), (at9, .inl (T 0, 60, .inl ft)), (ar, .inl (T 0, 30, .inl fr)), (ab, .inl (T 0, 3, .inl fb))] ++ oC T (w, q, qz, h, qs, t, gr, u, tr, oc) (Sw, S, Z, Sh, Hs, (dcE xx tn X).1, gGr (gGr (gGr Gg cd (dcE xx tn X).2.1 4 false) cd (dcE xx tn X).2.1 4 false) cd (dcE xx tn X).2.1 4 false, rTu (rTu (rTu U cd (dcE xx tn X).2.1) cd (dcE xx tn X).2.1) cd (dcE xx tn X).2.1, gTO (gTO K S tl (ntT cd (dcE xx tn X).2.1 U)) S tl (ntT cd (dcE xx tn X).2.1 (rTu (rTu U cd (dcE xx tn X).2.1) cd (dcE xx tn X).2.1)), O)) := hD
          refine lv_iload hx hb dL_decodes_269 (lv_at hl 1 rfl) ?_
          refine lv_icmp_ne (tgt := 289) hx hb dL_decodes_271 (by decide) (fun c_7 => by exfalso; exact c_7 (hd2 _)) (fun c_8 => ?_)
          refine lv_aload_n hx hb dL_decodes_274 rfl (lv_at hl 5 rfl) ?_
          refine k_rwV (As := []) (rest := []) (wc := ([(aq, .inl (T 0, 12, .inl fq)), (at9, .inl (T 0, 60, .inl ft)), (ar, .inl (T 0, 30, .inl fr)), (ab, .inl (T 0, 3, .inl fb))] ++ oC T (w, q, qz, h, qs, t, gr, u, tr, oc) (Sw, S, Z, Sh, Hs, (dcE xx tn X).1, gGr (gGr (gGr Gg cd (dcE xx tn X).2.1 4 false) cd (dcE xx tn X).2.1 4 false) cd (dcE xx tn X).2.1 4 false, rTu (rTu (rTu U cd (dcE xx tn X).2.1) cd (dcE xx tn X).2.1) cd (dcE xx tn X).2.1, gTO (gTO K S tl (ntT cd (dcE xx tn X).2.1 U)) S tl (ntT cd (dcE xx tn X).2.1 (rTu (rTu U cd (dcE xx tn X).2.1) cd (dcE xx tn X).2.1)), O))) (wr := []) (w1 := ([(aq, .inl (T 0, 12, .inl fq)), (at9, .inl (T 0, 60, .inl ft)), (ar, .inl (T 0, 30, .inl fr)), (ab, .inl (T 0, 3, .inl fb))] ++ oC T (w, q, qz, h, qs, t, gr, u, tr, oc) (Sw, S, Z, Sh, Hs, (dcE xx tn X).1, gGr (gGr (gGr (gGr Gg cd (dcE xx tn X).2.1 4 false) cd (dcE xx tn X).2.1 4 false) cd (dcE xx tn X).2.1 4 false) cd (dcE xx tn X).2.1 4 false, rTu (rTu (rTu U cd (dcE xx tn X).2.1) cd (dcE xx tn X).2.1) cd (dcE xx tn X).2.1, gTO (gTO K S tl (ntT cd (dcE xx tn X).2.1 U)) S tl (ntT cd (dcE xx tn X).2.1 (rTu (rTu U cd (dcE xx tn X).2.1) cd (dcE xx tn X).2.1)), O))) (d := 9) (mc := 0) (ms := 0) (v := nI (gEr cd (dcE xx tn X).2.1 4 false)) cx (RWi.fr (w_X7_tuneError l G T H.size w q qz h qs t gr u tr oc Sw S Z Sh Hs (dcE xx tn X).1 (gGr (gGr (gGr Gg cd (dcE xx tn X).2.1 4 false) cd (dcE xx tn X).2.1 4 false) cd (dcE xx tn X).2.1 4 false) (rTu (rTu (rTu U cd (dcE xx tn X).2.1) cd (dcE xx tn X).2.1) cd (dcE xx tn X).2.1) (gTO (gTO K S tl (ntT cd (dcE xx tn X).2.1 U)) S tl (ntT cd (dcE xx tn X).2.1 (rTu (rTu U cd (dcE xx tn X).2.1) cd (dcE xx tn X).2.1))) O (dcE xx tn X).2.1 cd hlE (by omega) hcd hc127) (Fr.head [(aq, .inl (T 0, 12, .inl fq)), (at9, .inl (T 0, 60, .inl ft)), (ar, .inl (T 0, 30, .inl fr)), (ab, .inl (T 0, 3, .inl fb))] (oC T (w, q, qz, h, qs, t, gr, u, tr, oc) (Sw, S, Z, Sh, Hs, (dcE xx tn X).1, gGr (gGr (gGr Gg cd (dcE xx tn X).2.1 4 false) cd (dcE xx tn X).2.1 4 false) cd (dcE xx tn X).2.1 4 false, rTu (rTu (rTu U cd (dcE xx tn X).2.1) cd (dcE xx tn X).2.1) cd (dcE xx tn X).2.1, gTO (gTO K S tl (ntT cd (dcE xx tn X).2.1 U)) S tl (ntT cd (dcE xx tn X).2.1 (rTu (rTu U cd (dcE xx tn X).2.1) cd (dcE xx tn X).2.1)), O)) (oC T (w, q, qz, h, qs, t, gr, u, tr, oc) (Sw, S, Z, Sh, Hs, (dcE xx tn X).1, gGr (gGr (gGr (gGr Gg cd (dcE xx tn X).2.1 4 false) cd (dcE xx tn X).2.1 4 false) cd (dcE xx tn X).2.1 4 false) cd (dcE xx tn X).2.1 4 false, rTu (rTu (rTu U cd (dcE xx tn X).2.1) cd (dcE xx tn X).2.1) cd (dcE xx tn X).2.1, gTO (gTO K S tl (ntT cd (dcE xx tn X).2.1 U)) S tl (ntT cd (dcE xx tn X).2.1 (rTu (rTu U cd (dcE xx tn X).2.1) cd (dcE xx tn X).2.1)), O)))) (cwV 0 hts gL_decodes_X7_tuneError rfl rfl rfl (by decide +kernel) ⟨Nat.le_of_ble_eq_true rfl, Nat.le_of_ble_eq_true rfl⟩) (kN_full hP hD hS hA hE hK) (va_recv hK hP (ci := 7) (q0 := 4) rfl rfl) rfl hl.1 rfl (Nat.le_of_ble_eq_true rfl) dL_decodes_275 ⟨Nat.le_of_ble_eq_true rfl, Nat.le_of_ble_eq_true rfl⟩ (fun H locs hP hD hS hz => ?_)
          have hP : va_P G vwCl ([(aq, .inl (T 0, 12, .inl fq)), (at9, .inl (T 0, 60, .inl ft)), (ar, .inl (T 0, 30, .inl fr)), (ab, .inl (T 0, 3, .inl fb))] ++ oC T (w, q, qz, h, qs, t, gr, u, tr, oc) (Sw, S, Z, Sh, Hs, (dcE xx tn X).1, gGr (gGr (gGr (gGr Gg cd (dcE xx tn X).2.1 4 false) cd (dcE xx tn X).2.1 4 false) cd (dcE xx tn X).2.1 4 false) cd (dcE xx tn X).2.1 4 false, rTu (rTu (rTu U cd (dcE xx tn X).2.1) cd (dcE xx tn X).2.1) cd (dcE xx tn X).2.1, gTO (gTO K S tl (ntT cd (dcE xx tn X).2.1 U)) S tl (ntT cd (dcE xx tn X).2.1 (rTu (rTu U cd (dcE xx tn X).2.1) cd (dcE xx tn X).2.1)), O)) H := hP
          have hD : va_D A ([(aq, .inl (T 0, 12, .inl fq)), (at9, .inl (T 0, 60, .inl ft)), (ar, .inl (T 0, 30, .inl fr)), (ab, .inl (T 0, 3, .inl fb))] ++ oC T (w, q, qz, h, qs, t, gr, u, tr, oc) (Sw, S, Z, Sh, Hs, (dcE xx tn X).1, gGr (gGr (gGr (gGr Gg cd (dcE xx tn X).2.1 4 false) cd (dcE xx tn X).2.1 4 false) cd (dcE xx tn X).2.1 4 false) cd (dcE xx tn X).2.1 4 false, rTu (rTu (rTu U cd (dcE xx tn X).2.1) cd (dcE xx tn X).2.1) cd (dcE xx tn X).2.1, gTO (gTO K S tl (ntT cd (dcE xx tn X).2.1 U)) S tl (ntT cd (dcE xx tn X).2.1 (rTu (rTu U cd (dcE xx tn X).2.1) cd (dcE xx tn X).2.1)), O)) := hD
          refine lv_aload_n hx hb dL_decodes_278 rfl (lv_at hl 5 rfl) ?_
          refine k_rwV (As := []) (rest := [.int (nI (gEr cd (dcE xx tn X).2.1 4 false))]) (wc := ([(aq, .inl (T 0, 12, .inl fq)), (at9, .inl (T 0, 60, .inl ft)), (ar, .inl (T 0, 30, .inl fr)), (ab, .inl (T 0, 3, .inl fb))] ++ oC T (w, q, qz, h, qs, t, gr, u, tr, oc) (Sw, S, Z, Sh, Hs, (dcE xx tn X).1, gGr (gGr (gGr (gGr Gg cd (dcE xx tn X).2.1 4 false) cd (dcE xx tn X).2.1 4 false) cd (dcE xx tn X).2.1 4 false) cd (dcE xx tn X).2.1 4 false, rTu (rTu (rTu U cd (dcE xx tn X).2.1) cd (dcE xx tn X).2.1) cd (dcE xx tn X).2.1, gTO (gTO K S tl (ntT cd (dcE xx tn X).2.1 U)) S tl (ntT cd (dcE xx tn X).2.1 (rTu (rTu U cd (dcE xx tn X).2.1) cd (dcE xx tn X).2.1)), O))) (wr := []) (w1 := ([(aq, .inl (T 0, 12, .inl fq)), (at9, .inl (T 0, 60, .inl ft)), (ar, .inl (T 0, 30, .inl fr)), (ab, .inl (T 0, 3, .inl fb))] ++ oC T (w, q, qz, h, qs, t, gr, u, tr, oc) (Sw, S, Z, Sh, Hs, xCl (dcE xx tn X).1, gGr (gGr (gGr (gGr Gg cd (dcE xx tn X).2.1 4 false) cd (dcE xx tn X).2.1 4 false) cd (dcE xx tn X).2.1 4 false) cd (dcE xx tn X).2.1 4 false, rTu (rTu (rTu U cd (dcE xx tn X).2.1) cd (dcE xx tn X).2.1) cd (dcE xx tn X).2.1, gTO (gTO K S tl (ntT cd (dcE xx tn X).2.1 U)) S tl (ntT cd (dcE xx tn X).2.1 (rTu (rTu U cd (dcE xx tn X).2.1) cd (dcE xx tn X).2.1)), O))) (d := 1) (mc := 0) (ms := 0) (v := nI (dcE xx tn X).2.1) cx (RWi.fr (w_X7_clearBuffer l G T H.size w q qz h qs t gr u tr oc Sw S Z Sh Hs (dcE xx tn X).1 (gGr (gGr (gGr (gGr Gg cd (dcE xx tn X).2.1 4 false) cd (dcE xx tn X).2.1 4 false) cd (dcE xx tn X).2.1 4 false) cd (dcE xx tn X).2.1 4 false) (rTu (rTu (rTu U cd (dcE xx tn X).2.1) cd (dcE xx tn X).2.1) cd (dcE xx tn X).2.1) (gTO (gTO K S tl (ntT cd (dcE xx tn X).2.1 U)) S tl (ntT cd (dcE xx tn X).2.1 (rTu (rTu U cd (dcE xx tn X).2.1) cd (dcE xx tn X).2.1))) O (dcE xx tn X).2.1 hlE (by omega)) (Fr.head [(aq, .inl (T 0, 12, .inl fq)), (at9, .inl (T 0, 60, .inl ft)), (ar, .inl (T 0, 30, .inl fr)), (ab, .inl (T 0, 3, .inl fb))] (oC T (w, q, qz, h, qs, t, gr, u, tr, oc) (Sw, S, Z, Sh, Hs, (dcE xx tn X).1, gGr (gGr (gGr (gGr Gg cd (dcE xx tn X).2.1 4 false) cd (dcE xx tn X).2.1 4 false) cd (dcE xx tn X).2.1 4 false) cd (dcE xx tn X).2.1 4 false, rTu (rTu (rTu U cd (dcE xx tn X).2.1) cd (dcE xx tn X).2.1) cd (dcE xx tn X).2.1, gTO (gTO K S tl (ntT cd (dcE xx tn X).2.1 U)) S tl (ntT cd (dcE xx tn X).2.1 (rTu (rTu U cd (dcE xx tn X).2.1) cd (dcE xx tn X).2.1)), O)) (oC T (w, q, qz, h, qs, t, gr, u, tr, oc) (Sw, S, Z, Sh, Hs, xCl (dcE xx tn X).1, gGr (gGr (gGr (gGr Gg cd (dcE xx tn X).2.1 4 false) cd (dcE xx tn X).2.1 4 false) cd (dcE xx tn X).2.1 4 false) cd (dcE xx tn X).2.1 4 false, rTu (rTu (rTu U cd (dcE xx tn X).2.1) cd (dcE xx tn X).2.1) cd (dcE xx tn X).2.1, gTO (gTO K S tl (ntT cd (dcE xx tn X).2.1 U)) S tl (ntT cd (dcE xx tn X).2.1 (rTu (rTu U cd (dcE xx tn X).2.1) cd (dcE xx tn X).2.1)), O)))) (cwV 0 hts gL_decodes_X7_clearBuffer rfl rfl rfl (by decide +kernel) ⟨Nat.le_of_ble_eq_true rfl, Nat.le_of_ble_eq_true rfl⟩) (kN_full hP hD hS hA hE hK) (va_recv hK hP (ci := 7) (q0 := 4) rfl rfl) rfl hl.1 rfl (Nat.le_of_ble_eq_true rfl) dL_decodes_279 ⟨Nat.le_of_ble_eq_true rfl, Nat.le_of_ble_eq_true rfl⟩ (fun H locs hP hD hS hz => ?_)
          have hP : va_P G vwCl ([(aq, .inl (T 0, 12, .inl fq)), (at9, .inl (T 0, 60, .inl ft)), (ar, .inl (T 0, 30, .inl fr)), (ab, .inl (T 0, 3, .inl fb))] ++ oC T (w, q, qz, h, qs, t, gr, u, tr, oc) (Sw, S, Z, Sh, Hs, xCl (dcE xx tn X).1, gGr (gGr (gGr (gGr Gg cd (dcE xx tn X).2.1 4 false) cd (dcE xx tn X).2.1 4 false) cd (dcE xx tn X).2.1 4 false) cd (dcE xx tn X).2.1 4 false, rTu (rTu (rTu U cd (dcE xx tn X).2.1) cd (dcE xx tn X).2.1) cd (dcE xx tn X).2.1, gTO (gTO K S tl (ntT cd (dcE xx tn X).2.1 U)) S tl (ntT cd (dcE xx tn X).2.1 (rTu (rTu U cd (dcE xx tn X).2.1) cd (dcE xx tn X).2.1)), O)) H := hP
          have hD : va_D A ([(aq, .inl (T 0, 12, .inl fq)), (at9, .inl (T 0, 60, .inl ft)), (ar, .inl (T 0, 30, .inl fr)), (ab, .inl (T 0, 3, .inl fb))] ++ oC T (w, q, qz, h, qs, t, gr, u, tr, oc) (Sw, S, Z, Sh, Hs, xCl (dcE xx tn X).1, gGr (gGr (gGr (gGr Gg cd (dcE xx tn X).2.1 4 false) cd (dcE xx tn X).2.1 4 false) cd (dcE xx tn X).2.1 4 false) cd (dcE xx tn X).2.1 4 false, rTu (rTu (rTu U cd (dcE xx tn X).2.1) cd (dcE xx tn X).2.1) cd (dcE xx tn X).2.1, gTO (gTO K S tl (ntT cd (dcE xx tn X).2.1 U)) S tl (ntT cd (dcE xx tn X).2.1 (rTu (rTu U cd (dcE xx tn X).2.1) cd (dcE xx tn X).2.1)), O)) := hD
          refine n_icmp_ne (a := gEr cd (dcE xx tn X).2.1 4 false) (b := (dcE xx tn X).2.1) (tgt := 289) hx hb (by omega) (by omega) dL_decodes_282 (by decide) (fun c_9 => by exfalso; exact c_9 hte) (fun c_10 => ?_)
          refine n_iconst hx hb 1 dL_decodes_285 (by decide) ?_
          refine lv_goto (tgt := 290) hx hb dL_decodes_286 (by decide) ?_
          subst hQ
          have hP9 : va_P G vwCl ([(aq, .inl (T 0, 12, .inl fq)), (at9, .inl (T 0, 60, .inl ft)), (ar, .inl (T 0, 30, .inl fr)), (ab, .inl (T 0, 3, .inl fb))] ++ oC T (w, q, qz, h, qs, t, gr, u, tr, oc) (Sw, S, Z, Sh, Hs, xCl (dcE xx tn X).1, dGg Gg cd (dcE xx tn X).2.1, dUu U cd (dcE xx tn X).2.1, dKk K S U tl cd (dcE xx tn X).2.1, O)) H := hP
          have hD9 : va_D A ([(aq, .inl (T 0, 12, .inl fq)), (at9, .inl (T 0, 60, .inl ft)), (ar, .inl (T 0, 30, .inl fr)), (ab, .inl (T 0, 3, .inl fb))] ++ oC T (w, q, qz, h, qs, t, gr, u, tr, oc) (Sw, S, Z, Sh, Hs, xCl (dcE xx tn X).1, dGg Gg cd (dcE xx tn X).2.1, dUu U cd (dcE xx tn X).2.1, dKk K S U tl cd (dcE xx tn X).2.1, O)) := hD
          exact e_rwz hx hb hr hlocks (by first | rfl | exact nar_b _) hS rfl hP9 hD9 dL_decodes_290
        · skip
          refine lv_iload hx hb dL_decodes_142 (lv_at hl 8 rfl) ?_
          refine k_roS (As := [.int (nI (dcE xx tn X).2.2)]) (rest := []) (wc := []) (d := 0) (v := nI (uMy (dcE xx tn X).2.2)) cx (c_L_many l G T A (dcE xx tn X).2.2 (by omega)) (va_cwS 1 hts gL_decodes_L_many rfl rfl rfl (by decide +kernel) ⟨Nat.le_of_ble_eq_true rfl, Nat.le_of_ble_eq_true rfl⟩) (hP.sub (ws' := []) [] rfl) hK (hE.kept hS.2.1) rfl hl.1 rfl (Nat.le_of_ble_eq_true rfl) dL_decodes_144 ⟨Nat.le_of_ble_eq_true rfl, Nat.le_of_ble_eq_true rfl⟩ ?_
          refine n_iconst hx hb 1 dL_decodes_147 (by decide) ?_
          have J_11 : ∀ y9 : Int32, y9 = (bI (vDb tn (dcE xx tn X).2.2 k)) → W p l e (headSpec wsL_decodes (rmD 16 0 0)).room s m args below meth c H locs 0 0 Q0 (F0 m 178 ls (.int y9 :: [])) := by
            intro y9 hy9
            subst hy9
            refine lv_istore (lv' := [(9, .int (bI (vDb tn (dcE xx tn X).2.2 k))), (8, .int (nI k)), (7, .int ((vDr tn (dcE xx tn X).2.2 (loN xx 7) k).2)), (6, .int ((vDr tn (dcE xx tn X).2.2 (loN xx 7) k).1)), (4, .int (nI (loN (iShr xx (nI 3)) 20))), (3, .int (nI (loN xx 7))), (0, .ref (w 0)), (1, .int xx), (2, .ref at9), (5, .int (nI (dcE xx tn X).2.2))]) hx hb dL_decodes_178 hl (by decide) rfl (fun ls hl => ?_)
            refine lv_iload hx hb dL_decodes_180 (lv_at hl 9 rfl) ?_
            refine n_iconst hx hb 0 dL_decodes_182 (by decide) ?_
            refine k_roS (As := [.int (nI (dcE xx tn X).2.2), .int (nI 0)]) (rest := []) (wc := []) (d := 0) (v := nI (uNt (dcE xx tn X).2.2 0)) cx (c_L_noteAt l G T A (dcE xx tn X).2.2 0 (by omega) (by omega)) (va_cwS 2 hts gL_decodes_L_noteAt rfl rfl rfl (by decide +kernel) ⟨Nat.le_of_ble_eq_true rfl, Nat.le_of_ble_eq_true rfl⟩) (hP.sub (ws' := []) [] rfl) hK (hE.kept hS.2.1) rfl hl.1 rfl (Nat.le_of_ble_eq_true rfl) dL_decodes_183 ⟨Nat.le_of_ble_eq_true rfl, Nat.le_of_ble_eq_true rfl⟩ ?_
            have htk9 := htn9 k (by omega)
            have hu1 := uNt_lt (tn k) 0
            refine lv_aload_n hx hb dL_decodes_186 rfl (lv_at hl 8 rfl) ?_
            refine lv_iload hx hb dL_decodes_187 (lv_at hl 1 rfl) ?_
            refine n_iald hx hb hK hP 1 0 rfl rfl k (by omega) (by decide) dL_decodes_189 ?_
            refine n_top (y := nI (tn k)) (htn _ (by omega)) ?_
            refine n_iconst hx hb 0 dL_decodes_190 (by decide) ?_
            refine k_roS (As := [.int (nI (tn k)), .int (nI 0)]) (rest := [.int (nI (uNt (dcE xx tn X).2.2 0))]) (wc := []) (d := 0) (v := nI (uNt (tn k) 0)) cx (c_L_noteAt l G T A (tn k) 0 (by omega) (by omega)) (va_cwS 2 hts gL_decodes_L_noteAt rfl rfl rfl (by decide +kernel) ⟨Nat.le_of_ble_eq_true rfl, Nat.le_of_ble_eq_true rfl⟩) (hP.sub (ws' := []) [] rfl) hK (hE.kept hS.2.1) rfl hl.1 rfl (Nat.le_of_ble_eq_true rfl) dL_decodes_191 ⟨Nat.le_of_ble_eq_true rfl, Nat.le_of_ble_eq_true rfl⟩ ?_
            refine lv_isub hx hb dL_decodes_194 ?_
            refine lv_bipush (v := nI 7) hx hb dL_decodes_195 (by decide) ?_
            refine lv_iadd hx hb dL_decodes_197 ?_
            refine n_top (y := nI (uNt (dcE xx tn X).2.2 0 + 7 - uNt (tn k) 0)) (uu_sub7 (by omega)) ?_
            refine lv_bipush (v := nI 7) hx hb dL_decodes_198 (by decide) ?_
            refine n_irem (a := uNt (dcE xx tn X).2.2 0 + 7 - uNt (tn k) 0) (b := 7) hx hb (by omega) (by decide) (by decide) dL_decodes_200 ?_
            refine lv_istore (lv' := [(10, .int (nI ((uNt (dcE xx tn X).2.2 0 + 7 - uNt (tn k) 0) % 7))), (9, .int (bI (vDb tn (dcE xx tn X).2.2 k))), (8, .int (nI k)), (7, .int ((vDr tn (dcE xx tn X).2.2 (loN xx 7) k).2)), (6, .int ((vDr tn (dcE xx tn X).2.2 (loN xx 7) k).1)), (4, .int (nI (loN (iShr xx (nI 3)) 20))), (3, .int (nI (loN xx 7))), (0, .ref (w 0)), (1, .int xx), (2, .ref at9), (5, .int (nI (dcE xx tn X).2.2))]) hx hb dL_decodes_201 hl (by decide) rfl (fun ls hl => ?_)
            refine lv_iload hx hb dL_decodes_203 (lv_at hl 1 rfl) ?_
            have J_12 : ∀ y9 : Int32, y9 = (vDr tn (dcE xx tn X).2.2 (loN xx 7) (k + 1)).1 → W p l e (headSpec wsL_decodes (rmD 16 0 0)).room s m args below meth c H locs 0 0 Q0 (F0 m 221 ls (.int y9 :: [])) := by
              intro y9 hy9
              subst hy9
              refine lv_istore (lv' := [(6, .int ((vDr tn (dcE xx tn X).2.2 (loN xx 7) (k + 1)).1)), (10, .int (nI ((uNt (dcE xx tn X).2.2 0 + 7 - uNt (tn k) 0) % 7))), (9, .int (bI (vDb tn (dcE xx tn X).2.2 k))), (8, .int (nI k)), (7, .int ((vDr tn (dcE xx tn X).2.2 (loN xx 7) k).2)), (4, .int (nI (loN (iShr xx (nI 3)) 20))), (3, .int (nI (loN xx 7))), (0, .ref (w 0)), (1, .int xx), (2, .ref at9), (5, .int (nI (dcE xx tn X).2.2))]) hx hb dL_decodes_221 hl (by decide) rfl (fun ls hl => ?_)
              refine lv_iload hx hb dL_decodes_223 (lv_at hl 2 rfl) ?_
              have J_13 : ∀ y9 : Int32, y9 = (vDr tn (dcE xx tn X).2.2 (loN xx 7) (k + 1)).2 → W p l e (headSpec wsL_decodes (rmD 16 0 0)).room s m args below meth c H locs 0 0 Q0 (F0 m 235 ls (.int y9 :: [])) := by
                intro y9 hy9
                subst hy9
                refine lv_istore (lv' := [(7, .int ((vDr tn (dcE xx tn X).2.2 (loN xx 7) (k + 1)).2)), (6, .int ((vDr tn (dcE xx tn X).2.2 (loN xx 7) (k + 1)).1)), (10, .int (nI ((uNt (dcE xx tn X).2.2 0 + 7 - uNt (tn k) 0) % 7))), (9, .int (bI (vDb tn (dcE xx tn X).2.2 k))), (8, .int (nI k)), (4, .int (nI (loN (iShr xx (nI 3)) 20))), (3, .int (nI (loN xx 7))), (0, .ref (w 0)), (1, .int xx), (2, .ref at9), (5, .int (nI (dcE xx tn X).2.2))]) hx hb dL_decodes_235 hl (by decide) rfl (fun ls hl => ?_)
                refine lv_iinc (v := nI (k + 1)) (lv' := [(8, .int (nI (k + 1))), (7, .int ((vDr tn (dcE xx tn X).2.2 (loN xx 7) (k + 1)).2)), (6, .int ((vDr tn (dcE xx tn X).2.2 (loN xx 7) (k + 1)).1)), (10, .int (nI ((uNt (dcE xx tn X).2.2 0 + 7 - uNt (tn k) 0) % 7))), (9, .int (bI (vDb tn (dcE xx tn X).2.2 k))), (4, .int (nI (loN (iShr xx (nI 3)) 20))), (3, .int (nI (loN xx 7))), (0, .ref (w 0)), (1, .int xx), (2, .ref at9), (5, .int (nI (dcE xx tn X).2.2))]) hx hb dL_decodes_237 hl (k := 4) rfl (n_inc k 1 rfl) (by decide) rfl (fun ls hl => ?_)
                refine lv_goto (tgt := 135) hx hb dL_decodes_240 (by decide) ?_
                exact ih135 (k + 1) (by omega) (by omega) _ _ _ rfl rfl rfl _ _ hP hD hS _ (lv_sub hl [0, 1, 2, 5, 6, 7, 8, 9, 10] rfl)
              refine b_if_eq (b := vDb tn (dcE xx tn X).2.2 k) (tgt := 233) hx hb dL_decodes_225 (by decide) (fun c_14 => ?_) (fun c_15 => ?_)
              · skip
                refine lv_iload hx hb dL_decodes_233 (lv_at hl 4 rfl) ?_
                exact J_13 _ (by simp only [vDr]; first | (rw [if_pos (by assumption)] <;> rfl) | (rw [if_neg (fun h9 => by rw [c_14] at h9; exact absurd h9 (by decide))] <;> rfl))
              · skip
                refine lv_iload hx hb dL_decodes_228 (lv_at hl 1 rfl) ?_
                refine lv_goto (tgt := 235) hx hb dL_decodes_230 (by decide) ?_
                exact J_13 _ (by simp only [vDr]; first | (rw [if_pos (by assumption)] <;> rfl) | (rw [if_neg (fun h9 => by rw [c_15] at h9; exact absurd h9 (by decide))] <;> rfl))
            refine b_if_eq (b := vDb tn (dcE xx tn X).2.2 k) (tgt := 219) hx hb dL_decodes_205 (by decide) (fun c_16 => ?_) (fun c_17 => ?_)
            · skip
              refine lv_iload hx hb dL_decodes_219 (lv_at hl 4 rfl) ?_
              exact J_12 _ (by simp only [vDr]; first | (rw [if_pos ⟨by assumption, by assumption⟩] <;> rfl) | (rw [if_neg (fun h9 => by first | exact absurd h9.2 (by assumption) | (have h8 := h9.1; rw [c_16] at h8; exact absurd h8 (by decide)))] <;> rfl))
            · skip
              refine lv_iload hx hb dL_decodes_208 (lv_at hl 0 rfl) ?_
              refine lv_iload_n hx hb dL_decodes_210 rfl (lv_at hl 6 rfl) ?_
              refine n_icmp_ne (a := (uNt (dcE xx tn X).2.2 0 + 7 - uNt (tn k) 0) % 7) (b := loN xx 7) (tgt := 219) hx hb (by omega) (by omega) dL_decodes_211 (by decide) (fun c_18 => ?_) (fun c_19 => ?_)
              · skip
                refine lv_iload hx hb dL_decodes_219 (lv_at hl 4 rfl) ?_
                exact J_12 _ (by simp only [vDr]; first | (rw [if_pos ⟨by assumption, by assumption⟩] <;> rfl) | (rw [if_neg (fun h9 => by first | exact absurd h9.2 (by assumption) | (have h8 := h9.1; rw [c_18] at h8; exact absurd h8 (by decide)))] <;> rfl))
              · skip
                refine lv_iload hx hb dL_decodes_214 (lv_at hl 2 rfl) ?_
                refine lv_goto (tgt := 221) hx hb dL_decodes_216 (by decide) ?_
                exact J_12 _ (by simp only [vDr]; first | (rw [if_pos ⟨by assumption, by assumption⟩] <;> rfl) | (rw [if_neg (fun h9 => by first | exact absurd h9.2 (by assumption) | (have h8 := h9.1; rw [c_19] at h8; exact absurd h8 (by decide)))] <;> rfl))
          refine n_icmp_le (a := uMy (dcE xx tn X).2.2) (b := 1) (tgt := 177) hx hb (by omega) (by decide) dL_decodes_148 (by decide) (fun c_20 => ?_) (fun c_21 => ?_)
          · skip
            refine n_iconst hx hb 0 dL_decodes_177 (by decide) ?_
            exact J_11 _ (by unfold vDb; first | exact bt1 ⟨by omega, by omega, by assumption⟩ | exact bt0 (fun h9 => by first | (have h7 := h9.1; have h8 := h9.2.1; omega) | (have h8 := h9.2.2; rw [c_20] at h8; exact absurd h8 (by decide))))
          · skip
            refine lv_iload hx hb dL_decodes_151 (lv_at hl 8 rfl) ?_
            refine k_roS (As := [.int (nI (dcE xx tn X).2.2)]) (rest := []) (wc := []) (d := 0) (v := nI (uMy (dcE xx tn X).2.2)) cx (c_L_many l G T A (dcE xx tn X).2.2 (by omega)) (va_cwS 1 hts gL_decodes_L_many rfl rfl rfl (by decide +kernel) ⟨Nat.le_of_ble_eq_true rfl, Nat.le_of_ble_eq_true rfl⟩) (hP.sub (ws' := []) [] rfl) hK (hE.kept hS.2.1) rfl hl.1 rfl (Nat.le_of_ble_eq_true rfl) dL_decodes_153 ⟨Nat.le_of_ble_eq_true rfl, Nat.le_of_ble_eq_true rfl⟩ ?_
            refine lv_bipush (v := nI 9) hx hb dL_decodes_156 (by decide) ?_
            refine n_icmp_ge (a := uMy (dcE xx tn X).2.2) (b := 9) (tgt := 177) hx hb (by omega) (by decide) dL_decodes_158 (by decide) (fun c_22 => ?_) (fun c_23 => ?_)
            · skip
              refine n_iconst hx hb 0 dL_decodes_177 (by decide) ?_
              exact J_11 _ (by unfold vDb; first | exact bt1 ⟨by omega, by omega, by assumption⟩ | exact bt0 (fun h9 => by first | (have h7 := h9.1; have h8 := h9.2.1; omega) | (have h8 := h9.2.2; rw [c_22] at h8; exact absurd h8 (by decide))))
            · skip
              have htk9 := htn9 k (by omega)
              refine lv_aload_n hx hb dL_decodes_161 rfl (lv_at hl 7 rfl) ?_
              refine lv_iload hx hb dL_decodes_162 (lv_at hl 0 rfl) ?_
              refine n_iald hx hb hK hP 1 0 rfl rfl k (by omega) (by decide) dL_decodes_164 ?_
              refine n_top (y := nI (tn k)) (htn _ (by omega)) ?_
              refine lv_iload hx hb dL_decodes_165 (lv_at hl 8 rfl) ?_
              refine k_roS (As := [.int (nI (tn k)), .int (nI (dcE xx tn X).2.2)]) (rest := []) (wc := []) (d := 2) (v := bI (uAl (tn k) (dcE xx tn X).2.2)) cx (c_L_alike l G T A (tn k) (dcE xx tn X).2.2 (by omega) (by omega)) (va_cwS 2 hts gL_decodes_L_alike rfl rfl rfl (by decide +kernel) ⟨Nat.le_of_ble_eq_true rfl, Nat.le_of_ble_eq_true rfl⟩) (hP.sub (ws' := []) [] rfl) hK (hE.kept hS.2.1) rfl hl.1 rfl (Nat.le_of_ble_eq_true rfl) dL_decodes_167 ⟨Nat.le_of_ble_eq_true rfl, Nat.le_of_ble_eq_true rfl⟩ ?_
              refine b_if_eq (b := uAl (tn k) (dcE xx tn X).2.2) (tgt := 177) hx hb dL_decodes_170 (by decide) (fun c_24 => ?_) (fun c_25 => ?_)
              · skip
                refine n_iconst hx hb 0 dL_decodes_177 (by decide) ?_
                exact J_11 _ (by unfold vDb; first | exact bt1 ⟨by omega, by omega, by assumption⟩ | exact bt0 (fun h9 => by first | (have h7 := h9.1; have h8 := h9.2.1; omega) | (have h8 := h9.2.2; rw [c_24] at h8; exact absurd h8 (by decide))))
              · skip
                refine n_iconst hx hb 1 dL_decodes_173 (by decide) ?_
                refine lv_goto (tgt := 178) hx hb dL_decodes_174 (by decide) ?_
                exact J_11 _ (by unfold vDb; first | exact bt1 ⟨by omega, by omega, by assumption⟩ | exact bt0 (fun h9 => by first | (have h7 := h9.1; have h8 := h9.2.1; omega) | (have h8 := h9.2.2; rw [c_25] at h8; exact absurd h8 (by decide))))
    exact L135 (20 + 1) 0 (by omega) (by omega) _ _ _ rfl rfl rfl _ _ hP hD hS _ (lv_sub hl [0, 1, 2, 3, 4, 5, 6, 7, 8] rfl)
  refine n_if_eq (a := loN (iShr xx (nI 8)) 3) (tgt := 38) hx hb (by omega) dL_decodes_25 (by decide) (fun c_26 => ?_) (fun c_27 => ?_)
  · skip
    refine lv_aload_n hx hb dL_decodes_38 rfl (lv_at hl 2 rfl) ?_
    refine lv_iload_n hx hb dL_decodes_39 rfl (lv_at hl 3 rfl) ?_
    refine lv_bipush (v := nI 9) hx hb dL_decodes_40 (by decide) ?_
    refine x_ishr hx hb dL_decodes_42 ?_
    refine k_rwS (As := [.ref (w 0), .int (iShr xx (nI 9))]) (rest := []) (wc := ([(aq, .inl (T 0, 12, .inl fq)), (at9, .inl (T 0, 60, .inl ft)), (ar, .inl (T 0, 30, .inl fr)), (ab, .inl (T 0, 3, .inl fb))] ++ oC T (w, q, qz, h, qs, t, gr, u, tr, oc) (Sw, S, Z, Sh, Hs, X, Gg, U, K, O))) (wr := []) (w1 := ([(aq, .inl (T 0, 12, .inl fq)), (at9, .inl (T 0, 60, .inl ft)), (ar, .inl (T 0, 30, .inl fr)), (ab, .inl (T 0, 3, .inl fb))] ++ oC T (w, q, qz, h, qs, t, gr, u, tr, oc) (Sw, S, Z, Sh, Hs, (tyE (iShr xx (nI 9)) X).1, Gg, U, K, O))) (d := 5) (mc := 0) (ms := 0) (v := nI (tyE (iShr xx (nI 9)) X).2.2) cx (RWi.fr (c_L_types l G T H.size w q qz h qs t gr u tr oc Sw S Z Sh Hs X Gg U K O n (iShr xx (nI 9)) hlen hn60) (Fr.head [(aq, .inl (T 0, 12, .inl fq)), (at9, .inl (T 0, 60, .inl ft)), (ar, .inl (T 0, 30, .inl fr)), (ab, .inl (T 0, 3, .inl fb))] (oC T (w, q, qz, h, qs, t, gr, u, tr, oc) (Sw, S, Z, Sh, Hs, X, Gg, U, K, O)) (oC T (w, q, qz, h, qs, t, gr, u, tr, oc) (Sw, S, Z, Sh, Hs, (tyE (iShr xx (nI 9)) X).1, Gg, U, K, O)))) (va_cwS 2 hts gL_decodes_L_types rfl rfl rfl (by decide +kernel) ⟨Nat.le_of_ble_eq_true rfl, Nat.le_of_ble_eq_true rfl⟩) (kN_full hP hD hS hA hE hK) rfl hl.1 rfl (Nat.le_of_ble_eq_true rfl) dL_decodes_43 ⟨Nat.le_of_ble_eq_true rfl, Nat.le_of_ble_eq_true rfl⟩ (fun H locs hP hD hS hz => ?_)
    have hP : va_P G vwCl ([(aq, .inl (T 0, 12, .inl fq)), (at9, .inl (T 0, 60, .inl ft)), (ar, .inl (T 0, 30, .inl fr)), (ab, .inl (T 0, 3, .inl fb))] ++ oC T (w, q, qz, h, qs, t, gr, u, tr, oc) (Sw, S, Z, Sh, Hs, (tyE (iShr xx (nI 9)) X).1, Gg, U, K, O)) H := hP
    have hD : va_D A ([(aq, .inl (T 0, 12, .inl fq)), (at9, .inl (T 0, 60, .inl ft)), (ar, .inl (T 0, 30, .inl fr)), (ab, .inl (T 0, 3, .inl fb))] ++ oC T (w, q, qz, h, qs, t, gr, u, tr, oc) (Sw, S, Z, Sh, Hs, (tyE (iShr xx (nI 9)) X).1, Gg, U, K, O)) := hD
    refine lv_goto (tgt := 50) hx hb dL_decodes_46 (by decide) ?_
    refine lv_istore (lv' := [(5, .int (nI (tyE (iShr xx (nI 9)) X).2.2)), (4, .int (nI (loN (iShr xx (nI 3)) 20))), (3, .int (nI (loN xx 7))), (0, .ref (w 0)), (1, .int xx), (2, .ref at9)]) hx hb dL_decodes_50 hl (by decide) rfl (fun ls hl => ?_)
    refine lv_iload hx hb dL_decodes_52 (lv_at hl 0 rfl) ?_
    refine n_if_ne (a := (tyE (iShr xx (nI 9)) X).2.2) (tgt := 126) hx hb (by omega) dL_decodes_54 (by decide) (fun c_28 => ?_) (fun c_29 => by exfalso; omega)
    rw [show (tyE (iShr xx (nI 9)) X).1 = (dcE xx tn X).1 from (by first | rw [dcE_1 (tn := tn) (by omega)] | rw [show k = uMy (tn (loN (iShr xx (nI 3)) 20)) from (by omega), dcE_2 (by omega) (by omega)])] at hP hD
    have hP : va_P G vwCl ([(aq, .inl (T 0, 12, .inl fq)), (at9, .inl (T 0, 60, .inl ft)), (ar, .inl (T 0, 30, .inl fr)), (ab, .inl (T 0, 3, .inl fb))] ++ oC T (w, q, qz, h, qs, t, gr, u, tr, oc) (Sw, S, Z, Sh, Hs, (dcE xx tn X).1, Gg, U, K, O)) H := hP
    have hD : va_D A ([(aq, .inl (T 0, 12, .inl fq)), (at9, .inl (T 0, 60, .inl ft)), (ar, .inl (T 0, 30, .inl fr)), (ab, .inl (T 0, 3, .inl fb))] ++ oC T (w, q, qz, h, qs, t, gr, u, tr, oc) (Sw, S, Z, Sh, Hs, (dcE xx tn X).1, Gg, U, K, O)) := hD
    rw [show (tyE (iShr xx (nI 9)) X).2.2 = (dcE xx tn X).2.2 from (by first | rw [dcE_1 (tn := tn) (by omega)] | rw [show k = uMy (tn (loN (iShr xx (nI 3)) 20)) from (by omega), dcE_2 (by omega) (by omega)])] at hl
    exact J126 _ _ hP hD hS _ (lv_sub hl [1, 2, 3, 4, 5, 0] rfl)
  · skip
    refine lv_aload_n hx hb dL_decodes_28 rfl (lv_at hl 4 rfl) ?_
    refine lv_iload hx hb dL_decodes_29 (lv_at hl 0 rfl) ?_
    refine n_iald hx hb hK hP 1 0 rfl rfl (loN (iShr xx (nI 3)) 20) (by omega) (by decide) dL_decodes_31 ?_
    refine n_top (y := nI (tn (loN (iShr xx (nI 3)) 20))) (htn _ (by omega)) ?_
    refine k_roS (As := [.int (nI (tn (loN (iShr xx (nI 3)) 20)))]) (rest := []) (wc := []) (d := 0) (v := nI (uMy (tn (loN (iShr xx (nI 3)) 20)))) cx (c_L_many l G T A (tn (loN (iShr xx (nI 3)) 20)) (by omega)) (va_cwS 1 hts gL_decodes_L_many rfl rfl rfl (by decide +kernel) ⟨Nat.le_of_ble_eq_true rfl, Nat.le_of_ble_eq_true rfl⟩) (hP.sub (ws' := []) [] rfl) hK (hE.kept hS.2.1) rfl hl.1 rfl (Nat.le_of_ble_eq_true rfl) dL_decodes_32 ⟨Nat.le_of_ble_eq_true rfl, Nat.le_of_ble_eq_true rfl⟩ ?_
    refine n_if_ne (a := uMy (tn (loN (iShr xx (nI 3)) 20))) (tgt := 49) hx hb (by omega) dL_decodes_35 (by decide) (fun c_30 => ?_) (fun c_31 => ?_)
    · skip
      refine n_iconst hx hb 0 dL_decodes_49 (by decide) ?_
      refine lv_istore (lv' := [(5, .int (nI 0)), (4, .int (nI (loN (iShr xx (nI 3)) 20))), (3, .int (nI (loN xx 7))), (0, .ref (w 0)), (1, .int xx), (2, .ref at9)]) hx hb dL_decodes_50 hl (by decide) rfl (fun ls hl => ?_)
      refine lv_iload hx hb dL_decodes_52 (lv_at hl 0 rfl) ?_
      refine n_if_ne (a := 0) (tgt := 126) hx hb (by decide) dL_decodes_54 (by decide) (fun h9 => absurd h9 (by decide)) (fun c_32 => ?_)
      refine lv_aload_n hx hb dL_decodes_57 rfl (lv_at hl 3 rfl) ?_
      refine k_rwV (As := []) (rest := []) (wc := ([(aq, .inl (T 0, 12, .inl fq)), (at9, .inl (T 0, 60, .inl ft)), (ar, .inl (T 0, 30, .inl fr)), (ab, .inl (T 0, 3, .inl fb))] ++ oC T (w, q, qz, h, qs, t, gr, u, tr, oc) (Sw, S, Z, Sh, Hs, X, Gg, U, K, O))) (wr := []) (w1 := ([(aq, .inl (T 0, 12, .inl fq)), (at9, .inl (T 0, 60, .inl ft)), (ar, .inl (T 0, 30, .inl fr)), (ab, .inl (T 0, 3, .inl fb))] ++ oC T (w, q, qz, h, qs, t, gr, u, tr, oc) (Sw, S, Z, Sh, Hs, xCl X, Gg, U, K, O))) (d := 1) (mc := 0) (ms := 0) (v := nI n) cx (RWi.fr (w_X7_clearBuffer l G T H.size w q qz h qs t gr u tr oc Sw S Z Sh Hs X Gg U K O n hlen hn60) (Fr.head [(aq, .inl (T 0, 12, .inl fq)), (at9, .inl (T 0, 60, .inl ft)), (ar, .inl (T 0, 30, .inl fr)), (ab, .inl (T 0, 3, .inl fb))] (oC T (w, q, qz, h, qs, t, gr, u, tr, oc) (Sw, S, Z, Sh, Hs, X, Gg, U, K, O)) (oC T (w, q, qz, h, qs, t, gr, u, tr, oc) (Sw, S, Z, Sh, Hs, xCl X, Gg, U, K, O)))) (cwV 0 hts gL_decodes_X7_clearBuffer rfl rfl rfl (by decide +kernel) ⟨Nat.le_of_ble_eq_true rfl, Nat.le_of_ble_eq_true rfl⟩) (kN_full hP hD hS hA hE hK) (va_recv hK hP (ci := 7) (q0 := 4) rfl rfl) rfl hl.1 rfl (Nat.le_of_ble_eq_true rfl) dL_decodes_58 ⟨Nat.le_of_ble_eq_true rfl, Nat.le_of_ble_eq_true rfl⟩ (fun H locs hP hD hS hz => ?_)
      have hP : va_P G vwCl ([(aq, .inl (T 0, 12, .inl fq)), (at9, .inl (T 0, 60, .inl ft)), (ar, .inl (T 0, 30, .inl fr)), (ab, .inl (T 0, 3, .inl fb))] ++ oC T (w, q, qz, h, qs, t, gr, u, tr, oc) (Sw, S, Z, Sh, Hs, xCl X, Gg, U, K, O)) H := hP
      have hD : va_D A ([(aq, .inl (T 0, 12, .inl fq)), (at9, .inl (T 0, 60, .inl ft)), (ar, .inl (T 0, 30, .inl fr)), (ab, .inl (T 0, 3, .inl fb))] ++ oC T (w, q, qz, h, qs, t, gr, u, tr, oc) (Sw, S, Z, Sh, Hs, xCl X, Gg, U, K, O)) := hD
      refine lv_pop hx hb dL_decodes_61 rfl ?_
      refine n_iconst hx hb 0 dL_decodes_62 (by decide) ?_
      refine lv_istore (lv' := [(6, .int (nI 0)), (5, .int (nI 0)), (4, .int (nI (loN (iShr xx (nI 3)) 20))), (3, .int (nI (loN xx 7))), (0, .ref (w 0)), (1, .int xx), (2, .ref at9)]) hx hb dL_decodes_63 hl (by decide) rfl (fun ls hl => ?_)
      have L65 : ∀ (n9 k : Nat) (hk1 : k ≤ uMy (tn (loN (iShr xx (nI 3)) 20))) (hk2 : uMy (tn (loN (iShr xx (nI 3)) 20)) - k < n9) (x6 : Int32) (x5 : Int32) (B_33 : Nat → Nat → Int32) (hx6 : x6 = nI k) (hx5 : x5 = nI (dcA xx (tn (loN (iShr xx (nI 3)) 20)) X k).2.2) (hB_33 : B_33 = (dcA xx (tn (loN (iShr xx (nI 3)) 20)) X k).1) (H : Heap) (locs : List Loc) (hP : va_P G vwCl ([(aq, .inl (T 0, 12, .inl fq)), (at9, .inl (T 0, 60, .inl ft)), (ar, .inl (T 0, 30, .inl fr)), (ab, .inl (T 0, 3, .inl fb))] ++ oC T (w, q, qz, h, qs, t, gr, u, tr, oc) (Sw, S, Z, Sh, Hs, B_33, Gg, U, K, O)) H) (hD : va_D A ([(aq, .inl (T 0, 12, .inl fq)), (at9, .inl (T 0, 60, .inl ft)), (ar, .inl (T 0, 30, .inl fr)), (ab, .inl (T 0, 3, .inl fb))] ++ oC T (w, q, qz, h, qs, t, gr, u, tr, oc) (Sw, S, Z, Sh, Hs, B_33, Gg, U, K, O))) (hS : va_S A s.heap H locs) (ls : Array Slot) (hl : lv_has ls 11 [(6, .int x6), (5, .int x5), (4, .int (nI (loN (iShr xx (nI 3)) 20))), (3, .int (nI (loN xx 7))), (0, .ref (w 0)), (1, .int xx), (2, .ref at9)]), W p l e (headSpec wsL_decodes (rmD 16 0 0)).room s m args below meth c H locs 0 0 Q0 (F0 m 65 ls []) := by
        intro n9
        induction n9 with
        | zero => intros; omega
        | succ n9 ih65 =>
          intro k hk1 hk2 x6 x5 B_33 hx6 hx5 hB_33 H locs hP hD hS ls hl
          subst hx6 hx5 hB_33
          obtain ⟨hb1, hb2, hlA9⟩ := dcA_b xx (tn (loN (iShr xx (nI 3)) 20)) X k
          have hnk := uNt_lt (tn (loN (iShr xx (nI 3)) 20)) k
          have hdk := dcN_lt xx (tn (loN (iShr xx (nI 3)) 20)) k
          have hlt := lLt_b (nt := (uNt (tn (loN (iShr xx (nI 3)) 20)) k + loN (iShr xx (nI 10)) 7) % 7) (Nat.mod_lt _ (by decide))
          have hlo9 := loN_lt (iShr xx (nI 10)) (n := 7) (by decide)
          have hlo8 := loN_lt (iShr xx (nI 8)) (n := 3) (by decide)
          refine lv_iload hx hb dL_decodes_65 (lv_at hl 0 rfl) ?_
          refine lv_aload_n hx hb dL_decodes_67 rfl (lv_at hl 6 rfl) ?_
          refine lv_iload hx hb dL_decodes_68 (lv_at hl 2 rfl) ?_
          refine n_iald hx hb hK hP 1 0 rfl rfl (loN (iShr xx (nI 3)) 20) (by omega) (by decide) dL_decodes_70 ?_
          refine n_top (y := nI (tn (loN (iShr xx (nI 3)) 20))) (htn _ (by omega)) ?_
          refine k_roS (As := [.int (nI (tn (loN (iShr xx (nI 3)) 20)))]) (rest := [.int (nI k)]) (wc := []) (d := 0) (v := nI (uMy (tn (loN (iShr xx (nI 3)) 20)))) cx (c_L_many l G T A (tn (loN (iShr xx (nI 3)) 20)) (by omega)) (va_cwS 1 hts gL_decodes_L_many rfl rfl rfl (by decide +kernel) ⟨Nat.le_of_ble_eq_true rfl, Nat.le_of_ble_eq_true rfl⟩) (hP.sub (ws' := []) [] rfl) hK (hE.kept hS.2.1) rfl hl.1 rfl (Nat.le_of_ble_eq_true rfl) dL_decodes_71 ⟨Nat.le_of_ble_eq_true rfl, Nat.le_of_ble_eq_true rfl⟩ ?_
          refine n_icmp_ge (a := k) (b := uMy (tn (loN (iShr xx (nI 3)) 20))) (tgt := 126) hx hb (by omega) (by omega) dL_decodes_74 (by decide) (fun c_34 => ?_) (fun c_35 => ?_)
          · skip
            rw [show (dcA xx (tn (loN (iShr xx (nI 3)) 20)) X k).1 = (dcE xx tn X).1 from (by first | rw [dcE_1 (tn := tn) (by omega)] | rw [show k = uMy (tn (loN (iShr xx (nI 3)) 20)) from (by omega), dcE_2 (by omega) (by omega)])] at hP hD
            have hP : va_P G vwCl ([(aq, .inl (T 0, 12, .inl fq)), (at9, .inl (T 0, 60, .inl ft)), (ar, .inl (T 0, 30, .inl fr)), (ab, .inl (T 0, 3, .inl fb))] ++ oC T (w, q, qz, h, qs, t, gr, u, tr, oc) (Sw, S, Z, Sh, Hs, (dcE xx tn X).1, Gg, U, K, O)) H := hP
            have hD : va_D A ([(aq, .inl (T 0, 12, .inl fq)), (at9, .inl (T 0, 60, .inl ft)), (ar, .inl (T 0, 30, .inl fr)), (ab, .inl (T 0, 3, .inl fb))] ++ oC T (w, q, qz, h, qs, t, gr, u, tr, oc) (Sw, S, Z, Sh, Hs, (dcE xx tn X).1, Gg, U, K, O)) := hD
            rw [show (dcA xx (tn (loN (iShr xx (nI 3)) 20)) X k).2.2 = (dcE xx tn X).2.2 from (by first | rw [dcE_1 (tn := tn) (by omega)] | rw [show k = uMy (tn (loN (iShr xx (nI 3)) 20)) from (by omega), dcE_2 (by omega) (by omega)])] at hl
            exact J126 _ _ hP hD hS _ (lv_sub hl [2, 3, 4, 5, 6, 1] rfl)
          · skip
            refine lv_aload_n hx hb dL_decodes_77 rfl (lv_at hl 6 rfl) ?_
            refine lv_iload hx hb dL_decodes_78 (lv_at hl 2 rfl) ?_
            refine n_iald hx hb hK hP 1 0 rfl rfl (loN (iShr xx (nI 3)) 20) (by omega) (by decide) dL_decodes_80 ?_
            refine n_top (y := nI (tn (loN (iShr xx (nI 3)) 20))) (htn _ (by omega)) ?_
            refine lv_iload hx hb dL_decodes_81 (lv_at hl 0 rfl) ?_
            refine k_roS (As := [.int (nI (tn (loN (iShr xx (nI 3)) 20))), .int (nI k)]) (rest := []) (wc := []) (d := 0) (v := nI (uNt (tn (loN (iShr xx (nI 3)) 20)) k)) cx (c_L_noteAt l G T A (tn (loN (iShr xx (nI 3)) 20)) k (by omega) (by omega)) (va_cwS 2 hts gL_decodes_L_noteAt rfl rfl rfl (by decide +kernel) ⟨Nat.le_of_ble_eq_true rfl, Nat.le_of_ble_eq_true rfl⟩) (hP.sub (ws' := []) [] rfl) hK (hE.kept hS.2.1) rfl hl.1 rfl (Nat.le_of_ble_eq_true rfl) dL_decodes_83 ⟨Nat.le_of_ble_eq_true rfl, Nat.le_of_ble_eq_true rfl⟩ ?_
            refine lv_iload_n hx hb dL_decodes_86 rfl (lv_at hl 5 rfl) ?_
            refine lv_bipush (v := nI 10) hx hb dL_decodes_87 (by decide) ?_
            refine x_ishr hx hb dL_decodes_89 ?_
            refine lv_bipush (v := nI 7) hx hb dL_decodes_90 (by decide) ?_
            refine k_roS (As := [.int (iShr xx (nI 10)), .int (nI 7)]) (rest := [.int (nI (uNt (tn (loN (iShr xx (nI 3)) 20)) k))]) (wc := []) (d := 0) (v := nI (loN (iShr xx (nI 10)) 7)) cx (c_L_low l G T A (iShr xx (nI 10)) 7 (by omega) (by omega)) (va_cwS 2 hts gL_decodes_L_low rfl rfl rfl (by decide +kernel) ⟨Nat.le_of_ble_eq_true rfl, Nat.le_of_ble_eq_true rfl⟩) (hP.sub (ws' := []) [] rfl) hK (hE.kept hS.2.1) rfl hl.1 rfl (Nat.le_of_ble_eq_true rfl) dL_decodes_92 ⟨Nat.le_of_ble_eq_true rfl, Nat.le_of_ble_eq_true rfl⟩ ?_
            refine n_iadd (a := uNt (tn (loN (iShr xx (nI 3)) 20)) k) (b := loN (iShr xx (nI 10)) 7) hx hb dL_decodes_95 ?_
            refine lv_bipush (v := nI 7) hx hb dL_decodes_96 (by decide) ?_
            refine n_irem (a := uNt (tn (loN (iShr xx (nI 3)) 20)) k + (loN (iShr xx (nI 10)) 7)) (b := 7) hx hb (by omega) (by decide) (by decide) dL_decodes_98 ?_
            refine lv_istore (lv' := [(7, .int (nI ((uNt (tn (loN (iShr xx (nI 3)) 20)) k + (loN (iShr xx (nI 10)) 7)) % 7))), (6, .int (nI k)), (5, .int (nI (dcA xx (tn (loN (iShr xx (nI 3)) 20)) X k).2.2)), (4, .int (nI (loN (iShr xx (nI 3)) 20))), (3, .int (nI (loN xx 7))), (0, .ref (w 0)), (1, .int xx), (2, .ref at9)]) hx hb dL_decodes_99 hl (by decide) rfl (fun ls hl => ?_)
            refine lv_aload_n hx hb dL_decodes_101 rfl (lv_at hl 5 rfl) ?_
            refine lv_iload hx hb dL_decodes_102 (lv_at hl 0 rfl) ?_
            refine k_roS (As := [.int (nI ((uNt (tn (loN (iShr xx (nI 3)) 20)) k + (loN (iShr xx (nI 10)) 7)) % 7))]) (rest := [.ref (w 0)]) (wc := []) (d := 0) (v := nI (lLt ((uNt (tn (loN (iShr xx (nI 3)) 20)) k + (loN (iShr xx (nI 10)) 7)) % 7))) cx (c_L_letter l G T A ((uNt (tn (loN (iShr xx (nI 3)) 20)) k + (loN (iShr xx (nI 10)) 7)) % 7) (by omega)) (va_cwS 1 hts gL_decodes_L_letter rfl rfl rfl (by decide +kernel) ⟨Nat.le_of_ble_eq_true rfl, Nat.le_of_ble_eq_true rfl⟩) (hP.sub (ws' := []) [] rfl) hK (hE.kept hS.2.1) rfl hl.1 rfl (Nat.le_of_ble_eq_true rfl) dL_decodes_104 ⟨Nat.le_of_ble_eq_true rfl, Nat.le_of_ble_eq_true rfl⟩ ?_
            refine k_lwS (As := [.ref (w 0), .int (nI (lLt ((uNt (tn (loN (iShr xx (nI 3)) 20)) k + (loN (iShr xx (nI 10)) 7)) % 7)))]) (rest := []) (wc := ([(aq, .inl (T 0, 12, .inl fq)), (at9, .inl (T 0, 60, .inl ft)), (ar, .inl (T 0, 30, .inl fr)), (ab, .inl (T 0, 3, .inl fb))] ++ oC T (w, q, qz, h, qs, t, gr, u, tr, oc) (Sw, S, Z, Sh, Hs, (dcA xx (tn (loN (iShr xx (nI 3)) 20)) X k).1, Gg, U, K, O))) (wr := []) (w1 := ([(aq, .inl (T 0, 12, .inl fq)), (at9, .inl (T 0, 60, .inl ft)), (ar, .inl (T 0, 30, .inl fr)), (ab, .inl (T 0, 3, .inl fb))] ++ oC T (w, q, qz, h, qs, t, gr, u, tr, oc) (Sw, S, Z, Sh, Hs, xAp (dcA xx (tn (loN (iShr xx (nI 3)) 20)) X k).1 (dcA xx (tn (loN (iShr xx (nI 3)) 20)) X k).2.1 (lLt ((uNt (tn (loN (iShr xx (nI 3)) 20)) k + (loN (iShr xx (nI 10)) 7)) % 7)), Gg, U, K, O))) (d := 3) (mc := 0) (ms := 0) (v := nI ((dcA xx (tn (loN (iShr xx (nI 3)) 20)) X k).2.1 + 1)) cx (RWi.fr (c_L_append l G T H.size w q qz h qs t gr u tr oc Sw S Z Sh Hs (dcA xx (tn (loN (iShr xx (nI 3)) 20)) X k).1 Gg U K O (dcA xx (tn (loN (iShr xx (nI 3)) 20)) X k).2.1 (lLt ((uNt (tn (loN (iShr xx (nI 3)) 20)) k + (loN (iShr xx (nI 10)) 7)) % 7)) (by first | assumption | rfl | omega) (by omega) (by omega) (by omega) (by omega)) (Fr.head [(aq, .inl (T 0, 12, .inl fq)), (at9, .inl (T 0, 60, .inl ft)), (ar, .inl (T 0, 30, .inl fr)), (ab, .inl (T 0, 3, .inl fb))] (oC T (w, q, qz, h, qs, t, gr, u, tr, oc) (Sw, S, Z, Sh, Hs, (dcA xx (tn (loN (iShr xx (nI 3)) 20)) X k).1, Gg, U, K, O)) (oC T (w, q, qz, h, qs, t, gr, u, tr, oc) (Sw, S, Z, Sh, Hs, xAp (dcA xx (tn (loN (iShr xx (nI 3)) 20)) X k).1 (dcA xx (tn (loN (iShr xx (nI 3)) 20)) X k).2.1 (lLt ((uNt (tn (loN (iShr xx (nI 3)) 20)) k + (loN (iShr xx (nI 10)) 7)) % 7)), Gg, U, K, O)))) (vx_cwSW 2 hts gL_decodes_L_append rfl rfl rfl (by decide +kernel) ⟨Nat.le_of_ble_eq_true rfl, Nat.le_of_ble_eq_true rfl⟩) (kN_full hP hD hS hA hE hK) rfl hl.1 rfl (Nat.le_of_ble_eq_true rfl) dL_decodes_107 ⟨Nat.le_of_ble_eq_true rfl, Nat.le_of_ble_eq_true rfl⟩ (fun H locs hP hD hS hz => ?_)
            have hP : va_P G vwCl ([(aq, .inl (T 0, 12, .inl fq)), (at9, .inl (T 0, 60, .inl ft)), (ar, .inl (T 0, 30, .inl fr)), (ab, .inl (T 0, 3, .inl fb))] ++ oC T (w, q, qz, h, qs, t, gr, u, tr, oc) (Sw, S, Z, Sh, Hs, xAp (dcA xx (tn (loN (iShr xx (nI 3)) 20)) X k).1 (dcA xx (tn (loN (iShr xx (nI 3)) 20)) X k).2.1 (lLt ((uNt (tn (loN (iShr xx (nI 3)) 20)) k + (loN (iShr xx (nI 10)) 7)) % 7)), Gg, U, K, O)) H := hP
            have hD : va_D A ([(aq, .inl (T 0, 12, .inl fq)), (at9, .inl (T 0, 60, .inl ft)), (ar, .inl (T 0, 30, .inl fr)), (ab, .inl (T 0, 3, .inl fb))] ++ oC T (w, q, qz, h, qs, t, gr, u, tr, oc) (Sw, S, Z, Sh, Hs, xAp (dcA xx (tn (loN (iShr xx (nI 3)) 20)) X k).1 (dcA xx (tn (loN (iShr xx (nI 3)) 20)) X k).2.1 (lLt ((uNt (tn (loN (iShr xx (nI 3)) 20)) k + (loN (iShr xx (nI 10)) 7)) % 7)), Gg, U, K, O)) := hD
            refine lv_pop hx hb dL_decodes_110 rfl ?_
            refine lv_iload hx hb dL_decodes_111 (lv_at hl 2 rfl) ?_
            refine lv_iload hx hb dL_decodes_113 (lv_at hl 0 rfl) ?_
            refine k_roS (As := [.int (nI (dcA xx (tn (loN (iShr xx (nI 3)) 20)) X k).2.2), .int (nI ((uNt (tn (loN (iShr xx (nI 3)) 20)) k + (loN (iShr xx (nI 10)) 7)) % 7))]) (rest := []) (wc := []) (d := 1) (v := nI (uWi (dcA xx (tn (loN (iShr xx (nI 3)) 20)) X k).2.2 ((uNt (tn (loN (iShr xx (nI 3)) 20)) k + (loN (iShr xx (nI 10)) 7)) % 7))) cx (c_L_with l G T A (dcA xx (tn (loN (iShr xx (nI 3)) 20)) X k).2.2 ((uNt (tn (loN (iShr xx (nI 3)) 20)) k + (loN (iShr xx (nI 10)) 7)) % 7) (by omega) (by omega)) (va_cwS 2 hts gL_decodes_L_with rfl rfl rfl (by decide +kernel) ⟨Nat.le_of_ble_eq_true rfl, Nat.le_of_ble_eq_true rfl⟩) (hP.sub (ws' := []) [] rfl) hK (hE.kept hS.2.1) rfl hl.1 rfl (Nat.le_of_ble_eq_true rfl) dL_decodes_115 ⟨Nat.le_of_ble_eq_true rfl, Nat.le_of_ble_eq_true rfl⟩ ?_
            refine lv_istore (lv' := [(5, .int (nI (uWi (dcA xx (tn (loN (iShr xx (nI 3)) 20)) X k).2.2 ((uNt (tn (loN (iShr xx (nI 3)) 20)) k + (loN (iShr xx (nI 10)) 7)) % 7)))), (7, .int (nI ((uNt (tn (loN (iShr xx (nI 3)) 20)) k + (loN (iShr xx (nI 10)) 7)) % 7))), (6, .int (nI k)), (4, .int (nI (loN (iShr xx (nI 3)) 20))), (3, .int (nI (loN xx 7))), (0, .ref (w 0)), (1, .int xx), (2, .ref at9)]) hx hb dL_decodes_118 hl (by decide) rfl (fun ls hl => ?_)
            refine lv_iinc (v := nI (k + 1)) (lv' := [(6, .int (nI (k + 1))), (5, .int (nI (uWi (dcA xx (tn (loN (iShr xx (nI 3)) 20)) X k).2.2 ((uNt (tn (loN (iShr xx (nI 3)) 20)) k + (loN (iShr xx (nI 10)) 7)) % 7)))), (7, .int (nI ((uNt (tn (loN (iShr xx (nI 3)) 20)) k + (loN (iShr xx (nI 10)) 7)) % 7))), (4, .int (nI (loN (iShr xx (nI 3)) 20))), (3, .int (nI (loN xx 7))), (0, .ref (w 0)), (1, .int xx), (2, .ref at9)]) hx hb dL_decodes_120 hl (k := 2) rfl (n_inc k 1 rfl) (by decide) rfl (fun ls hl => ?_)
            refine lv_goto (tgt := 65) hx hb dL_decodes_123 (by decide) ?_
            have e_36 : (nI (uWi (dcA xx (tn (loN (iShr xx (nI 3)) 20)) X k).2.2 ((uNt (tn (loN (iShr xx (nI 3)) 20)) k + (loN (iShr xx (nI 10)) 7)) % 7))) = nI (dcA xx (tn (loN (iShr xx (nI 3)) 20)) X (k + 1)).2.2 := rfl
            have e_37 : (xAp (dcA xx (tn (loN (iShr xx (nI 3)) 20)) X k).1 (dcA xx (tn (loN (iShr xx (nI 3)) 20)) X k).2.1 (lLt ((uNt (tn (loN (iShr xx (nI 3)) 20)) k + (loN (iShr xx (nI 10)) 7)) % 7))) = (dcA xx (tn (loN (iShr xx (nI 3)) 20)) X (k + 1)).1 := rfl
            exact ih65 (k + 1) (by omega) (by omega) _ _ _ rfl e_36 e_37 _ _ hP hD hS _ (lv_sub hl [0, 1, 3, 4, 5, 6, 7] rfl)
      exact L65 (uMy (tn (loN (iShr xx (nI 3)) 20)) + 1) 0 (by omega) (by omega) _ _ _ rfl rfl rfl _ _ hP hD hS _ (lv_sub hl [0, 1, 2, 3, 4, 5, 6] rfl)
    · skip
      refine lv_aload_n hx hb dL_decodes_38 rfl (lv_at hl 2 rfl) ?_
      refine lv_iload_n hx hb dL_decodes_39 rfl (lv_at hl 3 rfl) ?_
      refine lv_bipush (v := nI 9) hx hb dL_decodes_40 (by decide) ?_
      refine x_ishr hx hb dL_decodes_42 ?_
      refine k_rwS (As := [.ref (w 0), .int (iShr xx (nI 9))]) (rest := []) (wc := ([(aq, .inl (T 0, 12, .inl fq)), (at9, .inl (T 0, 60, .inl ft)), (ar, .inl (T 0, 30, .inl fr)), (ab, .inl (T 0, 3, .inl fb))] ++ oC T (w, q, qz, h, qs, t, gr, u, tr, oc) (Sw, S, Z, Sh, Hs, X, Gg, U, K, O))) (wr := []) (w1 := ([(aq, .inl (T 0, 12, .inl fq)), (at9, .inl (T 0, 60, .inl ft)), (ar, .inl (T 0, 30, .inl fr)), (ab, .inl (T 0, 3, .inl fb))] ++ oC T (w, q, qz, h, qs, t, gr, u, tr, oc) (Sw, S, Z, Sh, Hs, (tyE (iShr xx (nI 9)) X).1, Gg, U, K, O))) (d := 5) (mc := 0) (ms := 0) (v := nI (tyE (iShr xx (nI 9)) X).2.2) cx (RWi.fr (c_L_types l G T H.size w q qz h qs t gr u tr oc Sw S Z Sh Hs X Gg U K O n (iShr xx (nI 9)) hlen hn60) (Fr.head [(aq, .inl (T 0, 12, .inl fq)), (at9, .inl (T 0, 60, .inl ft)), (ar, .inl (T 0, 30, .inl fr)), (ab, .inl (T 0, 3, .inl fb))] (oC T (w, q, qz, h, qs, t, gr, u, tr, oc) (Sw, S, Z, Sh, Hs, X, Gg, U, K, O)) (oC T (w, q, qz, h, qs, t, gr, u, tr, oc) (Sw, S, Z, Sh, Hs, (tyE (iShr xx (nI 9)) X).1, Gg, U, K, O)))) (va_cwS 2 hts gL_decodes_L_types rfl rfl rfl (by decide +kernel) ⟨Nat.le_of_ble_eq_true rfl, Nat.le_of_ble_eq_true rfl⟩) (kN_full hP hD hS hA hE hK) rfl hl.1 rfl (Nat.le_of_ble_eq_true rfl) dL_decodes_43 ⟨Nat.le_of_ble_eq_true rfl, Nat.le_of_ble_eq_true rfl⟩ (fun H locs hP hD hS hz => ?_)
      have hP : va_P G vwCl ([(aq, .inl (T 0, 12, .inl fq)), (at9, .inl (T 0, 60, .inl ft)), (ar, .inl (T 0, 30, .inl fr)), (ab, .inl (T 0, 3, .inl fb))] ++ oC T (w, q, qz, h, qs, t, gr, u, tr, oc) (Sw, S, Z, Sh, Hs, (tyE (iShr xx (nI 9)) X).1, Gg, U, K, O)) H := hP
      have hD : va_D A ([(aq, .inl (T 0, 12, .inl fq)), (at9, .inl (T 0, 60, .inl ft)), (ar, .inl (T 0, 30, .inl fr)), (ab, .inl (T 0, 3, .inl fb))] ++ oC T (w, q, qz, h, qs, t, gr, u, tr, oc) (Sw, S, Z, Sh, Hs, (tyE (iShr xx (nI 9)) X).1, Gg, U, K, O)) := hD
      refine lv_goto (tgt := 50) hx hb dL_decodes_46 (by decide) ?_
      refine lv_istore (lv' := [(5, .int (nI (tyE (iShr xx (nI 9)) X).2.2)), (4, .int (nI (loN (iShr xx (nI 3)) 20))), (3, .int (nI (loN xx 7))), (0, .ref (w 0)), (1, .int xx), (2, .ref at9)]) hx hb dL_decodes_50 hl (by decide) rfl (fun ls hl => ?_)
      refine lv_iload hx hb dL_decodes_52 (lv_at hl 0 rfl) ?_
      refine n_if_ne (a := (tyE (iShr xx (nI 9)) X).2.2) (tgt := 126) hx hb (by omega) dL_decodes_54 (by decide) (fun c_38 => ?_) (fun c_39 => by exfalso; omega)
      rw [show (tyE (iShr xx (nI 9)) X).1 = (dcE xx tn X).1 from (by first | rw [dcE_1 (tn := tn) (by omega)] | rw [show k = uMy (tn (loN (iShr xx (nI 3)) 20)) from (by omega), dcE_2 (by omega) (by omega)])] at hP hD
      have hP : va_P G vwCl ([(aq, .inl (T 0, 12, .inl fq)), (at9, .inl (T 0, 60, .inl ft)), (ar, .inl (T 0, 30, .inl fr)), (ab, .inl (T 0, 3, .inl fb))] ++ oC T (w, q, qz, h, qs, t, gr, u, tr, oc) (Sw, S, Z, Sh, Hs, (dcE xx tn X).1, Gg, U, K, O)) H := hP
      have hD : va_D A ([(aq, .inl (T 0, 12, .inl fq)), (at9, .inl (T 0, 60, .inl ft)), (ar, .inl (T 0, 30, .inl fr)), (ab, .inl (T 0, 3, .inl fb))] ++ oC T (w, q, qz, h, qs, t, gr, u, tr, oc) (Sw, S, Z, Sh, Hs, (dcE xx tn X).1, Gg, U, K, O)) := hD
      rw [show (tyE (iShr xx (nI 9)) X).2.2 = (dcE xx tn X).2.2 from (by first | rw [dcE_1 (tn := tn) (by omega)] | rw [show k = uMy (tn (loN (iShr xx (nI 3)) 20)) from (by omega), dcE_2 (by omega) (by omega)])] at hl
      exact J126 _ _ hP hD hS _ (lv_sub hl [1, 2, 3, 4, 5, 0] rfl)
set_option maxHeartbeats 40000000 in
set_option maxRecDepth 100000 in
theorem c_L_isSo (l : Launch) (G : va_G) (T : Nat → ClassId) (sz : Nat) (aq : Nat) (fq : Nat → Int32) (at9 : Nat) (ft : Nat → Int32) (ar : Nat) (fr : Nat → Int32) (ab : Nat) (fb : Nat → Int32) (tn : Nat → Nat) (w : Nat → Nat) (q : Nat → Nat) (qz : Nat → Nat) (h : Nat → Nat) (qs : Nat → Nat → Nat) (t : Nat → Nat) (gr : Nat → Nat) (u : Nat → Nat) (tr : Nat → Nat) (oc : Nat → Nat) (Sw : Nat → Nat → Int32) (S : Nat → Nat → Int32) (Z : Nat → Nat → Int32) (Sh : Nat → Nat → Int32) (Hs : Nat → Nat → Nat → Int32) (X : Nat → Nat → Int32) (Gg : Nat → Nat → Int32) (U : Nat → Nat → Int32) (K : Nat → Nat → Int32) (O : Nat → Nat → Int32) (n : Nat) (nx : Nat) (tl : Nat → Nat) (cd : Nat → Nat) (xx : Int32) (htn : ∀ i : Nat, i < 20 → ft i = nI (tn i)) (htn9 : ∀ i : Nat, i < 20 → tn i < 167772160) (htl : ∀ i : Nat, i < 20 → S 6 i = nI (tl i)) (htl8 : ∀ i : Nat, i < 20 → tl i ≤ 8) (hn : Sh 0 2 = nI n) (hlen : X 0 1 = nI nx) (hn60 : nx ≤ 60) (hc0 : pCt S n 0 = fq 0) (hc1 : pCt S n 1 = fq 1) (hc2 : pCt S n 2 = nI (sT tn 20)) (hc3 : (tG S tl 20).2.2 = uNd tn 20) (hc3b : uNd tn 20 < 1000) (hc4 : pCt S n 4 = nI (sM tn 20)) (hc5 : pCt S n 5 = fq 2) (hc6 : pCt S n 6 = sRr fr 2 6) (hc7 : pCt S n 7 = nI (sSs fq fr 6)) (hc8 : pCt S n 8 = fq 5) (hc9 : pCt S n 9 = sRr fr 1 6) (hc10 : pCt S n 10 = sGg fq fr 6) (hc11 : pCt S n 11 = fq 3) (hc12 : pCt S n 12 = fq 4) (hla : ∀ k : Nat, k < 6 → S 15 k = fq (6 + k)) (hs1 : sRr fr 3 6 + sRr fr 4 6 = 0 → cSh S = FP.dconst1) (hs2 : ¬ sRr fr 3 6 + sRr fr 4 6 = 0 → cSh S = FP.ddiv (FP.i2d (sRr fr 3 6)) (FP.i2d (sRr fr 3 6 + sRr fr 4 6))) (hM0 : ∀ mm : Nat, mm < 20 → pMsg S mm 0 = nI (uMy (tn mm))) (hM1 : ∀ mm : Nat, mm < 20 → pMsg S mm 1 = vWho fb mm) (hM2 : ∀ mm : Nat, mm < 20 → pMsg S mm 2 = ft (20 + mm)) (hM3 : ∀ mm : Nat, mm < 20 → pMsg S mm 3 = ft (40 + mm)) (hMb : ∀ mm : Nat, mm < 20 → (pBr S mm 6).1 = (vBe fq fr fb tn mm 6).1) (hMn : ∀ mm : Nat, mm < 20 → ∀ k : Nat, k < 8 → pNote S mm k = if k < uMy (tn mm) then nI (uNt (tn mm) k) else -1) (hMz : ∀ mm : Nat, mm < 20 → ∀ k : Nat, k < 6 → x6 (vBr fq fr fb k mm 1)) (hR0 : ∀ rr : Nat, rr < 6 → pRm S rr 0 = fr (5 * rr)) (hR1 : ∀ rr : Nat, rr < 6 → pRm S rr 1 = fr (5 * rr + 1)) (hR2 : ∀ rr : Nat, rr < 6 → pRm S rr 2 = fr (5 * rr + 2)) (hR3 : ∀ rr : Nat, rr < 6 → pRm S rr 3 = if fr (5 * rr + 1) < fq 4 then nI 0 else nI 1) (hR4 : ∀ rr : Nat, rr < 6 → pRm S rr 4 = fr (5 * rr + 3)) (hR5 : ∀ rr : Nat, rr < 6 → pRm S rr 5 = fr (5 * rr + 4)) (hRw : ∀ rr mm : Nat, rr < 6 → mm < 20 → pWhy S rr mm = vWy fq fr tn rr mm) (hRi : ∀ rr mm : Nat, rr < 6 → mm < 20 → ∀ k : Nat, k < 4 → pIf S rr mm k = if vWy fq fr tn rr mm = 0 then vBr fq fr fb rr mm k else -1) (hcd : ∀ i : Nat, i < (dcE (iShr xx (nI 6)) tn X).2.1 → (dcE (iShr xx (nI 6)) tn X).1 1 i = nI (cd i)) (hc127 : ∀ i : Nat, i < (dcE (iShr xx (nI 6)) tn X).2.1 → cd i < 127) (hbT : bT cd (dcE (iShr xx (nI 6)) tn X).2.1 = true) (hd0 : ∀ U9 : Nat → Nat → Int32, pDT S tl (rTu U9 cd (dcE (iShr xx (nI 6)) tn X).2.1) (ntT cd (dcE (iShr xx (nI 6)) tn X).2.1 U9) (nI (loN (iShr xx (nI 6)) 7)) = (vDr tn (dcE (iShr xx (nI 6)) tn X).2.2 (loN (iShr xx (nI 6)) 7) 20).1) (hd1 : ∀ U9 : Nat → Nat → Int32, pDM S tl (rTu U9 cd (dcE (iShr xx (nI 6)) tn X).2.1) (ntT cd (dcE (iShr xx (nI 6)) tn X).2.1 U9) (nI (loN (iShr xx (nI 6)) 7)) = (vDr tn (dcE (iShr xx (nI 6)) tn X).2.2 (loN (iShr xx (nI 6)) 7) 20).1) (hd2 : ∀ U9 : Nat → Nat → Int32, pKO S tl (rTu U9 cd (dcE (iShr xx (nI 6)) tn X).2.1) (ntT cd (dcE (iShr xx (nI 6)) tn X).2.1 U9) = (vDr tn (dcE (iShr xx (nI 6)) tn X).2.2 (loN (iShr xx (nI 6)) 7) 20).2) (hte : gEr cd (dcE (iShr xx (nI 6)) tn X).2.1 4 false = (dcE (iShr xx (nI 6)) tn X).2.1) : RWi l yL_isSo wsL_isSo 17 0 0 G T sz ([(aq, .inl (T 0, 12, .inl fq)), (at9, .inl (T 0, 60, .inl ft)), (ar, .inl (T 0, 30, .inl fr)), (ab, .inl (T 0, 3, .inl fb))] ++ oC T (w, q, qz, h, qs, t, gr, u, tr, oc) (Sw, S, Z, Sh, Hs, X, Gg, U, K, O)) [.ref (w 0), .int xx, .ref aq, .ref at9, .ref ar, .ref ab] (nI 1) ([(aq, .inl (T 0, 12, .inl fq)), (at9, .inl (T 0, 60, .inl ft)), (ar, .inl (T 0, 30, .inl fr)), (ab, .inl (T 0, 3, .inl fb))] ++ oC T (w, q, qz, h, qs, t, gr, u, tr, oc) (Sw, S, Z, Sh, Hs, xCl (dcE (iShr xx (nI 6)) tn X).1, dGg Gg cd (dcE (iShr xx (nI 6)) tn X).2.1, dUu U cd (dcE (iShr xx (nI 6)) tn X).2.1, dKk (gTr K S tl) S U tl cd (dcE (iShr xx (nI 6)) tn X).2.1, vIO (pBrO O S (loN xx 20) 6) S (loN (iShr xx (nI 5)) 6) (loN (iShr xx (nI 8)) 20) 4)) := by
  refine Met.ofW (cc := cL_isSo) (maxL := 16) (ret := (some .boolean)) (by decide) rfl ?_
  intro p e s m args below meth c s₁ B hml hv
  obtain ⟨ha, hsz, hP, hK, hD0, hE0⟩ := hv
  have hx := B.exec
  have hb := B.bytes
  have hr := B.returns
  have hlocks := B.notSynchronized
  have hts := atoms_spec (ws := wsL_isSo) B.pre
  have hown : s.vm.findClass RL = some m.cls := findClass_of_methodNamed B.named
  have cx : CallFix p m c cL_isSo 16 s args wsL_isSo RL := ⟨hx, hb, hml, hown, hts⟩
  subst hsz
  have hD := hD0.self (sz := s.heap.size)
  generalize hAe : va_A ([(aq, .inl (T 0, 12, .inl fq)), (at9, .inl (T 0, 60, .inl ft)), (ar, .inl (T 0, 30, .inl fr)), (ab, .inl (T 0, 3, .inl fb))] ++ oC T (w, q, qz, h, qs, t, gr, u, tr, oc) (Sw, S, Z, Sh, Hs, X, Gg, U, K, O)) s.heap.size = A at hD hE0 ⊢
  have hE : gE A s s.heap := hE0
  have hA : ∀ q : Nat, s.heap.size ≤ q → A q := fun q h => by rw [← hAe]; exact Or.inr h
  have hS : va_S A s.heap s.heap [] := va_S.rf
  refine w_entry ha (Nat.le_of_ble_eq_true rfl) (fun ls hl => ?_)
  refine w_q (fun Q0 hQ => ?_)
  have hl : lv_has ls 16 [(0, .ref (w 0)), (1, .int xx), (2, .ref aq), (3, .ref at9), (4, .ref ar), (5, .ref ab)] := hl
  have hP : va_P G vwCl ([(aq, .inl (T 0, 12, .inl fq)), (at9, .inl (T 0, 60, .inl ft)), (ar, .inl (T 0, 30, .inl fr)), (ab, .inl (T 0, 3, .inl fb))] ++ oC T (w, q, qz, h, qs, t, gr, u, tr, oc) (Sw, S, Z, Sh, Hs, X, Gg, U, K, O)) s.heap := hP
  have hD : va_D A ([(aq, .inl (T 0, 12, .inl fq)), (at9, .inl (T 0, 60, .inl ft)), (ar, .inl (T 0, 30, .inl fr)), (ab, .inl (T 0, 3, .inl fb))] ++ oC T (w, q, qz, h, qs, t, gr, u, tr, oc) (Sw, S, Z, Sh, Hs, X, Gg, U, K, O)) := hD
  skip
  have hm20 := loN_lt xx (n := 20) (by decide)
  have hr6 := loN_lt (iShr xx (nI 5)) (n := 6) (by decide)
  have hm28 := loN_lt (iShr xx (nI 8)) (n := 20) (by decide)
  have hsM := sM_9 htn9 (k := 20) (by decide)
  refine w_h (fun H locs hHe hLe => ?_)
  have hP : va_P G vwCl ([(aq, .inl (T 0, 12, .inl fq)), (at9, .inl (T 0, 60, .inl ft)), (ar, .inl (T 0, 30, .inl fr)), (ab, .inl (T 0, 3, .inl fb))] ++ oC T (w, q, qz, h, qs, t, gr, u, tr, oc) (Sw, S, Z, Sh, Hs, X, Gg, U, K, O)) H := by rw [hHe]; exact hP
  have hS : va_S A s.heap H locs := by rw [hHe, hLe]; exact hS
  refine n_iconst hx hb 0 dL_isSo_0 (by decide) ?_
  refine lv_istore (lv' := [(6, .int (nI 0)), (0, .ref (w 0)), (1, .int xx), (2, .ref aq), (3, .ref at9), (4, .ref ar), (5, .ref ab)]) hx hb dL_isSo_1 hl (by decide) rfl (fun ls hl => ?_)
  refine n_iconst hx hb 0 dL_isSo_3 (by decide) ?_
  refine lv_istore (lv' := [(7, .int (nI 0)), (6, .int (nI 0)), (0, .ref (w 0)), (1, .int xx), (2, .ref aq), (3, .ref at9), (4, .ref ar), (5, .ref ab)]) hx hb dL_isSo_4 hl (by decide) rfl (fun ls hl => ?_)
  refine n_iconst hx hb 0 dL_isSo_6 (by decide) ?_
  refine lv_istore (lv' := [(8, .int (nI 0)), (7, .int (nI 0)), (6, .int (nI 0)), (0, .ref (w 0)), (1, .int xx), (2, .ref aq), (3, .ref at9), (4, .ref ar), (5, .ref ab)]) hx hb dL_isSo_7 hl (by decide) rfl (fun ls hl => ?_)
  have L9 : ∀ (n9 k : Nat) (hk1 : k ≤ 20) (hk2 : 20 - k < n9) (x8 : Int32) (x7 : Int32) (x6 : Int32) (hx8 : x8 = nI k) (hx7 : x7 = nI (sM tn k)) (hx6 : x6 = nI (sT tn k)) (H : Heap) (locs : List Loc) (hP : va_P G vwCl ([(aq, .inl (T 0, 12, .inl fq)), (at9, .inl (T 0, 60, .inl ft)), (ar, .inl (T 0, 30, .inl fr)), (ab, .inl (T 0, 3, .inl fb))] ++ oC T (w, q, qz, h, qs, t, gr, u, tr, oc) (Sw, S, Z, Sh, Hs, X, Gg, U, K, O)) H) (hD : va_D A ([(aq, .inl (T 0, 12, .inl fq)), (at9, .inl (T 0, 60, .inl ft)), (ar, .inl (T 0, 30, .inl fr)), (ab, .inl (T 0, 3, .inl fb))] ++ oC T (w, q, qz, h, qs, t, gr, u, tr, oc) (Sw, S, Z, Sh, Hs, X, Gg, U, K, O))) (hS : va_S A s.heap H locs) (ls : Array Slot) (hl : lv_has ls 16 [(8, .int x8), (7, .int x7), (6, .int x6), (0, .ref (w 0)), (1, .int xx), (2, .ref aq), (3, .ref at9), (4, .ref ar), (5, .ref ab)]), W p l e (headSpec wsL_isSo (rmD 17 0 0)).room s m args below meth c H locs 0 0 Q0 (F0 m 9 ls []) := by
    intro n9
    induction n9 with
    | zero => intros; omega
    | succ n9 ih9 =>
      intro k hk1 hk2 x8 x7 x6 hx8 hx7 hx6 H locs hP hD hS ls hl
      subst hx8 hx7 hx6
      have hsk := sM_9 htn9 (k := k) (by omega)
      refine lv_iload hx hb dL_isSo_9 (lv_at hl 0 rfl) ?_
      refine lv_bipush (v := nI 20) hx hb dL_isSo_11 (by decide) ?_
      refine n_icmp_ge (a := k) (b := 20) (tgt := 65) hx hb (by omega) (by decide) dL_isSo_13 (by decide) (fun c_1 => ?_) (fun c_2 => ?_)
      · skip
        obtain rfl : k = 20 := (by omega)
        refine n_iconst hx hb 0 dL_isSo_65 (by decide) ?_
        refine lv_istore (lv' := [(8, .int (nI 0)), (7, .int (nI (sM tn 20))), (6, .int (nI (sT tn 20))), (0, .ref (w 0)), (1, .int xx), (2, .ref aq), (3, .ref at9), (4, .ref ar), (5, .ref ab)]) hx hb dL_isSo_66 hl (by decide) rfl (fun ls hl => ?_)
        refine n_iconst hx hb 0 dL_isSo_68 (by decide) ?_
        refine lv_istore (lv' := [(9, .int (nI 0)), (8, .int (nI 0)), (7, .int (nI (sM tn 20))), (6, .int (nI (sT tn 20))), (0, .ref (w 0)), (1, .int xx), (2, .ref aq), (3, .ref at9), (4, .ref ar), (5, .ref ab)]) hx hb dL_isSo_69 hl (by decide) rfl (fun ls hl => ?_)
        refine n_iconst hx hb 0 dL_isSo_71 (by decide) ?_
        refine lv_istore (lv' := [(10, .int (nI 0)), (9, .int (nI 0)), (8, .int (nI 0)), (7, .int (nI (sM tn 20))), (6, .int (nI (sT tn 20))), (0, .ref (w 0)), (1, .int xx), (2, .ref aq), (3, .ref at9), (4, .ref ar), (5, .ref ab)]) hx hb dL_isSo_72 hl (by decide) rfl (fun ls hl => ?_)
        refine n_iconst hx hb 0 dL_isSo_74 (by decide) ?_
        refine lv_istore (lv' := [(11, .int (nI 0)), (10, .int (nI 0)), (9, .int (nI 0)), (8, .int (nI 0)), (7, .int (nI (sM tn 20))), (6, .int (nI (sT tn 20))), (0, .ref (w 0)), (1, .int xx), (2, .ref aq), (3, .ref at9), (4, .ref ar), (5, .ref ab)]) hx hb dL_isSo_75 hl (by decide) rfl (fun ls hl => ?_)
        refine n_iconst hx hb 0 dL_isSo_77 (by decide) ?_
        refine lv_istore (lv' := [(12, .int (nI 0)), (11, .int (nI 0)), (10, .int (nI 0)), (9, .int (nI 0)), (8, .int (nI 0)), (7, .int (nI (sM tn 20))), (6, .int (nI (sT tn 20))), (0, .ref (w 0)), (1, .int xx), (2, .ref aq), (3, .ref at9), (4, .ref ar), (5, .ref ab)]) hx hb dL_isSo_78 hl (by decide) rfl (fun ls hl => ?_)
        refine n_iconst hx hb 0 dL_isSo_80 (by decide) ?_
        refine lv_istore (lv' := [(13, .int (nI 0)), (12, .int (nI 0)), (11, .int (nI 0)), (10, .int (nI 0)), (9, .int (nI 0)), (8, .int (nI 0)), (7, .int (nI (sM tn 20))), (6, .int (nI (sT tn 20))), (0, .ref (w 0)), (1, .int xx), (2, .ref aq), (3, .ref at9), (4, .ref ar), (5, .ref ab)]) hx hb dL_isSo_81 hl (by decide) rfl (fun ls hl => ?_)
        refine n_iconst hx hb 0 dL_isSo_83 (by decide) ?_
        refine lv_istore (lv' := [(14, .int (nI 0)), (13, .int (nI 0)), (12, .int (nI 0)), (11, .int (nI 0)), (10, .int (nI 0)), (9, .int (nI 0)), (8, .int (nI 0)), (7, .int (nI (sM tn 20))), (6, .int (nI (sT tn 20))), (0, .ref (w 0)), (1, .int xx), (2, .ref aq), (3, .ref at9), (4, .ref ar), (5, .ref ab)]) hx hb dL_isSo_84 hl (by decide) rfl (fun ls hl => ?_)
        have L86_i_3 : ∀ (n9 k : Nat) (hk1 : k ≤ 6) (hk2 : 6 - k < n9) (x14 : Int32) (x13 : Int32) (x12 : Int32) (x11 : Int32) (x10 : Int32) (x9 : Int32) (x8 : Int32) (hx14 : x14 = nI k) (hx13 : x13 = sGg fq fr k) (hx12 : x12 = sRr fr 4 k) (hx11 : x11 = sRr fr 3 k) (hx10 : x10 = sRr fr 1 k) (hx9 : x9 = nI (sSs fq fr k)) (hx8 : x8 = sRr fr 2 k) (H : Heap) (locs : List Loc) (hP : va_P G vwCl ([(aq, .inl (T 0, 12, .inl fq)), (at9, .inl (T 0, 60, .inl ft)), (ar, .inl (T 0, 30, .inl fr)), (ab, .inl (T 0, 3, .inl fb))] ++ oC T (w, q, qz, h, qs, t, gr, u, tr, oc) (Sw, S, Z, Sh, Hs, X, Gg, U, K, O)) H) (hD : va_D A ([(aq, .inl (T 0, 12, .inl fq)), (at9, .inl (T 0, 60, .inl ft)), (ar, .inl (T 0, 30, .inl fr)), (ab, .inl (T 0, 3, .inl fb))] ++ oC T (w, q, qz, h, qs, t, gr, u, tr, oc) (Sw, S, Z, Sh, Hs, X, Gg, U, K, O))) (hS : va_S A s.heap H locs) (ls : Array Slot) (hl : lv_has ls 16 [(14, .int x14), (13, .int x13), (12, .int x12), (11, .int x11), (10, .int x10), (9, .int x9), (8, .int x8), (7, .int (nI (sM tn 20))), (6, .int (nI (sT tn 20))), (0, .ref (w 0)), (1, .int xx), (2, .ref aq), (3, .ref at9), (4, .ref ar), (5, .ref ab)]), W p l e (headSpec wsL_isSo (rmD 17 0 0)).room s m args below meth c H locs 0 0 Q0 (F0 m 86 ls []) := by
          intro n9
          induction n9 with
          | zero => intros; omega
          | succ n9 ih86 =>
            intro k hk1 hk2 x14 x13 x12 x11 x10 x9 x8 hx14 hx13 hx12 hx11 hx10 hx9 hx8 H locs hP hD hS ls hl
            subst hx14 hx13 hx12 hx11 hx10 hx9 hx8
            refine lv_iload hx hb dL_isSo_86 (lv_at hl 0 rfl) ?_
            refine lv_bipush (v := nI 6) hx hb dL_isSo_88 (by decide) ?_
            refine n_icmp_ge (a := k) (b := 6) (tgt := 206) hx hb (by omega) (by decide) dL_isSo_90 (by decide) (fun c_4 => ?_) (fun c_5 => ?_)
            · skip
              obtain rfl : k = 6 := (by omega)
              refine lv_aload_n hx hb dL_isSo_206 rfl (lv_at hl 9 rfl) ?_
              refine n_iconst hx hb 0 dL_isSo_207 (by decide) ?_
              refine k_lwS (As := [.ref (w 0), .int (nI 0)]) (rest := []) (wc := ([(aq, .inl (T 0, 12, .inl fq)), (at9, .inl (T 0, 60, .inl ft)), (ar, .inl (T 0, 30, .inl fr)), (ab, .inl (T 0, 3, .inl fb))] ++ oC T (w, q, qz, h, qs, t, gr, u, tr, oc) (Sw, S, Z, Sh, Hs, X, Gg, U, K, O))) (wr := []) (w1 := ([(aq, .inl (T 0, 12, .inl fq)), (at9, .inl (T 0, 60, .inl ft)), (ar, .inl (T 0, 30, .inl fr)), (ab, .inl (T 0, 3, .inl fb))] ++ oC T (w, q, qz, h, qs, t, gr, u, tr, oc) (Sw, S, Z, Sh, Hs, X, Gg, U, K, O))) (d := 3) (mc := 0) (ms := 0) (v := pCt S n 0) cx (RWi.fr (c_L_count l G T H.size w q qz h qs t gr u tr oc Sw S Z Sh Hs X Gg U K O n 0 hn (by omega) (by first | assumption | rfl | omega)) (Fr.head [(aq, .inl (T 0, 12, .inl fq)), (at9, .inl (T 0, 60, .inl ft)), (ar, .inl (T 0, 30, .inl fr)), (ab, .inl (T 0, 3, .inl fb))] (oC T (w, q, qz, h, qs, t, gr, u, tr, oc) (Sw, S, Z, Sh, Hs, X, Gg, U, K, O)) (oC T (w, q, qz, h, qs, t, gr, u, tr, oc) (Sw, S, Z, Sh, Hs, X, Gg, U, K, O)))) (vx_cwSW 2 hts gL_isSo_L_count rfl rfl rfl (by decide +kernel) ⟨Nat.le_of_ble_eq_true rfl, Nat.le_of_ble_eq_true rfl⟩) (kN_full hP hD hS hA hE hK) rfl hl.1 rfl (Nat.le_of_ble_eq_true rfl) dL_isSo_208 ⟨Nat.le_of_ble_eq_true rfl, Nat.le_of_ble_eq_true rfl⟩ (fun H locs hP hD hS hz => ?_)
              have hP : va_P G vwCl ([(aq, .inl (T 0, 12, .inl fq)), (at9, .inl (T 0, 60, .inl ft)), (ar, .inl (T 0, 30, .inl fr)), (ab, .inl (T 0, 3, .inl fb))] ++ oC T (w, q, qz, h, qs, t, gr, u, tr, oc) (Sw, S, Z, Sh, Hs, X, Gg, U, K, O)) H := hP
              have hD : va_D A ([(aq, .inl (T 0, 12, .inl fq)), (at9, .inl (T 0, 60, .inl ft)), (ar, .inl (T 0, 30, .inl fr)), (ab, .inl (T 0, 3, .inl fb))] ++ oC T (w, q, qz, h, qs, t, gr, u, tr, oc) (Sw, S, Z, Sh, Hs, X, Gg, U, K, O)) := hD
              refine lv_aload_n hx hb dL_isSo_211 rfl (lv_at hl 11 rfl) ?_
              refine n_iconst hx hb 0 dL_isSo_212 (by decide) ?_
              refine n_iald hx hb hK hP 0 0 rfl rfl 0 (by decide) (by decide) dL_isSo_213 ?_
              refine lv_icmp_ne (tgt := 355) hx hb dL_isSo_214 (by decide) (fun c_6 => by exfalso; exact c_6 hc0) (fun c_7 => ?_)
              refine lv_aload_n hx hb dL_isSo_217 rfl (lv_at hl 9 rfl) ?_
              refine n_iconst hx hb 1 dL_isSo_218 (by decide) ?_
              refine k_lwS (As := [.ref (w 0), .int (nI 1)]) (rest := []) (wc := ([(aq, .inl (T 0, 12, .inl fq)), (at9, .inl (T 0, 60, .inl ft)), (ar, .inl (T 0, 30, .inl fr)), (ab, .inl (T 0, 3, .inl fb))] ++ oC T (w, q, qz, h, qs, t, gr, u, tr, oc) (Sw, S, Z, Sh, Hs, X, Gg, U, K, O))) (wr := []) (w1 := ([(aq, .inl (T 0, 12, .inl fq)), (at9, .inl (T 0, 60, .inl ft)), (ar, .inl (T 0, 30, .inl fr)), (ab, .inl (T 0, 3, .inl fb))] ++ oC T (w, q, qz, h, qs, t, gr, u, tr, oc) (Sw, S, Z, Sh, Hs, X, Gg, U, K, O))) (d := 3) (mc := 0) (ms := 0) (v := pCt S n 1) cx (RWi.fr (c_L_count l G T H.size w q qz h qs t gr u tr oc Sw S Z Sh Hs X Gg U K O n 1 hn (by omega) (by first | assumption | rfl | omega)) (Fr.head [(aq, .inl (T 0, 12, .inl fq)), (at9, .inl (T 0, 60, .inl ft)), (ar, .inl (T 0, 30, .inl fr)), (ab, .inl (T 0, 3, .inl fb))] (oC T (w, q, qz, h, qs, t, gr, u, tr, oc) (Sw, S, Z, Sh, Hs, X, Gg, U, K, O)) (oC T (w, q, qz, h, qs, t, gr, u, tr, oc) (Sw, S, Z, Sh, Hs, X, Gg, U, K, O)))) (vx_cwSW 2 hts gL_isSo_L_count rfl rfl rfl (by decide +kernel) ⟨Nat.le_of_ble_eq_true rfl, Nat.le_of_ble_eq_true rfl⟩) (kN_full hP hD hS hA hE hK) rfl hl.1 rfl (Nat.le_of_ble_eq_true rfl) dL_isSo_219 ⟨Nat.le_of_ble_eq_true rfl, Nat.le_of_ble_eq_true rfl⟩ (fun H locs hP hD hS hz => ?_)
              have hP : va_P G vwCl ([(aq, .inl (T 0, 12, .inl fq)), (at9, .inl (T 0, 60, .inl ft)), (ar, .inl (T 0, 30, .inl fr)), (ab, .inl (T 0, 3, .inl fb))] ++ oC T (w, q, qz, h, qs, t, gr, u, tr, oc) (Sw, S, Z, Sh, Hs, X, Gg, U, K, O)) H := hP
              have hD : va_D A ([(aq, .inl (T 0, 12, .inl fq)), (at9, .inl (T 0, 60, .inl ft)), (ar, .inl (T 0, 30, .inl fr)), (ab, .inl (T 0, 3, .inl fb))] ++ oC T (w, q, qz, h, qs, t, gr, u, tr, oc) (Sw, S, Z, Sh, Hs, X, Gg, U, K, O)) := hD
              refine lv_aload_n hx hb dL_isSo_222 rfl (lv_at hl 11 rfl) ?_
              refine n_iconst hx hb 1 dL_isSo_223 (by decide) ?_
              refine n_iald hx hb hK hP 0 0 rfl rfl 1 (by decide) (by decide) dL_isSo_224 ?_
              refine lv_icmp_ne (tgt := 355) hx hb dL_isSo_225 (by decide) (fun c_8 => by exfalso; exact c_8 hc1) (fun c_9 => ?_)
              refine lv_aload_n hx hb dL_isSo_228 rfl (lv_at hl 9 rfl) ?_
              refine n_iconst hx hb 2 dL_isSo_229 (by decide) ?_
              refine k_lwS (As := [.ref (w 0), .int (nI 2)]) (rest := []) (wc := ([(aq, .inl (T 0, 12, .inl fq)), (at9, .inl (T 0, 60, .inl ft)), (ar, .inl (T 0, 30, .inl fr)), (ab, .inl (T 0, 3, .inl fb))] ++ oC T (w, q, qz, h, qs, t, gr, u, tr, oc) (Sw, S, Z, Sh, Hs, X, Gg, U, K, O))) (wr := []) (w1 := ([(aq, .inl (T 0, 12, .inl fq)), (at9, .inl (T 0, 60, .inl ft)), (ar, .inl (T 0, 30, .inl fr)), (ab, .inl (T 0, 3, .inl fb))] ++ oC T (w, q, qz, h, qs, t, gr, u, tr, oc) (Sw, S, Z, Sh, Hs, X, Gg, U, K, O))) (d := 3) (mc := 0) (ms := 0) (v := pCt S n 2) cx (RWi.fr (c_L_count l G T H.size w q qz h qs t gr u tr oc Sw S Z Sh Hs X Gg U K O n 2 hn (by omega) (by first | assumption | rfl | omega)) (Fr.head [(aq, .inl (T 0, 12, .inl fq)), (at9, .inl (T 0, 60, .inl ft)), (ar, .inl (T 0, 30, .inl fr)), (ab, .inl (T 0, 3, .inl fb))] (oC T (w, q, qz, h, qs, t, gr, u, tr, oc) (Sw, S, Z, Sh, Hs, X, Gg, U, K, O)) (oC T (w, q, qz, h, qs, t, gr, u, tr, oc) (Sw, S, Z, Sh, Hs, X, Gg, U, K, O)))) (vx_cwSW 2 hts gL_isSo_L_count rfl rfl rfl (by decide +kernel) ⟨Nat.le_of_ble_eq_true rfl, Nat.le_of_ble_eq_true rfl⟩) (kN_full hP hD hS hA hE hK) rfl hl.1 rfl (Nat.le_of_ble_eq_true rfl) dL_isSo_230 ⟨Nat.le_of_ble_eq_true rfl, Nat.le_of_ble_eq_true rfl⟩ (fun H locs hP hD hS hz => ?_)
              have hP : va_P G vwCl ([(aq, .inl (T 0, 12, .inl fq)), (at9, .inl (T 0, 60, .inl ft)), (ar, .inl (T 0, 30, .inl fr)), (ab, .inl (T 0, 3, .inl fb))] ++ oC T (w, q, qz, h, qs, t, gr, u, tr, oc) (Sw, S, Z, Sh, Hs, X, Gg, U, K, O)) H := hP
              have hD : va_D A ([(aq, .inl (T 0, 12, .inl fq)), (at9, .inl (T 0, 60, .inl ft)), (ar, .inl (T 0, 30, .inl fr)), (ab, .inl (T 0, 3, .inl fb))] ++ oC T (w, q, qz, h, qs, t, gr, u, tr, oc) (Sw, S, Z, Sh, Hs, X, Gg, U, K, O)) := hD
              refine lv_iload hx hb dL_isSo_233 (lv_at hl 8 rfl) ?_
              refine lv_icmp_ne (tgt := 355) hx hb dL_isSo_235 (by decide) (fun c_10 => by exfalso; exact c_10 hc2) (fun c_11 => ?_)
              refine lv_aload_n hx hb dL_isSo_238 rfl (lv_at hl 9 rfl) ?_
              refine n_iconst hx hb 3 dL_isSo_239 (by decide) ?_
              refine k_lwS (As := [.ref (w 0), .int (nI 3)]) (rest := []) (wc := ([(aq, .inl (T 0, 12, .inl fq)), (at9, .inl (T 0, 60, .inl ft)), (ar, .inl (T 0, 30, .inl fr)), (ab, .inl (T 0, 3, .inl fb))] ++ oC T (w, q, qz, h, qs, t, gr, u, tr, oc) (Sw, S, Z, Sh, Hs, X, Gg, U, K, O))) (wr := []) (w1 := ([(aq, .inl (T 0, 12, .inl fq)), (at9, .inl (T 0, 60, .inl ft)), (ar, .inl (T 0, 30, .inl fr)), (ab, .inl (T 0, 3, .inl fb))] ++ oC T (w, q, qz, h, qs, t, gr, u, tr, oc) (Sw, S, Z, Sh, Hs, X, Gg, U, gTr K S tl, O))) (d := 6) (mc := 0) (ms := 0) (v := nI (tG S tl 20).2.2) cx (RWi.fr (c_L_count_3 l G T H.size w q qz h qs t gr u tr oc Sw S Z Sh Hs X Gg U K O tl htl htl8) (Fr.head [(aq, .inl (T 0, 12, .inl fq)), (at9, .inl (T 0, 60, .inl ft)), (ar, .inl (T 0, 30, .inl fr)), (ab, .inl (T 0, 3, .inl fb))] (oC T (w, q, qz, h, qs, t, gr, u, tr, oc) (Sw, S, Z, Sh, Hs, X, Gg, U, K, O)) (oC T (w, q, qz, h, qs, t, gr, u, tr, oc) (Sw, S, Z, Sh, Hs, X, Gg, U, gTr K S tl, O)))) (vx_cwSW 2 hts gL_isSo_L_count rfl rfl rfl (by decide +kernel) ⟨Nat.le_of_ble_eq_true rfl, Nat.le_of_ble_eq_true rfl⟩) (kN_full hP hD hS hA hE hK) rfl hl.1 rfl (Nat.le_of_ble_eq_true rfl) dL_isSo_240 ⟨Nat.le_of_ble_eq_true rfl, Nat.le_of_ble_eq_true rfl⟩ (fun H locs hP hD hS hz => ?_)
              have hP : va_P G vwCl ([(aq, .inl (T 0, 12, .inl fq)), (at9, .inl (T 0, 60, .inl ft)), (ar, .inl (T 0, 30, .inl fr)), (ab, .inl (T 0, 3, .inl fb))] ++ oC T (w, q, qz, h, qs, t, gr, u, tr, oc) (Sw, S, Z, Sh, Hs, X, Gg, U, gTr K S tl, O)) H := hP
              have hD : va_D A ([(aq, .inl (T 0, 12, .inl fq)), (at9, .inl (T 0, 60, .inl ft)), (ar, .inl (T 0, 30, .inl fr)), (ab, .inl (T 0, 3, .inl fb))] ++ oC T (w, q, qz, h, qs, t, gr, u, tr, oc) (Sw, S, Z, Sh, Hs, X, Gg, U, gTr K S tl, O)) := hD
              refine lv_aload_n hx hb dL_isSo_243 rfl (lv_at hl 12 rfl) ?_
              refine k_roS (As := [.ref at9]) (rest := [.int (nI (tG S tl 20).2.2)]) (wc := [(at9, .inl (T 0, 60, .inl ft))]) (d := 2) (v := nI (uNd tn 20)) cx (c_L_nodes l G T A at9 ft tn (by first | assumption | rfl | omega) (by omega)) (va_cwS 1 hts gL_isSo_L_nodes rfl rfl rfl (by decide +kernel) ⟨Nat.le_of_ble_eq_true rfl, Nat.le_of_ble_eq_true rfl⟩) (hP.sub (ws' := [(at9, .inl (T 0, 60, .inl ft))]) [1] rfl) hK (hE.kept hS.2.1) rfl hl.1 rfl (Nat.le_of_ble_eq_true rfl) dL_isSo_244 ⟨Nat.le_of_ble_eq_true rfl, Nat.le_of_ble_eq_true rfl⟩ ?_
              refine n_icmp_ne (a := (tG S tl 20).2.2) (b := uNd tn 20) (tgt := 355) hx hb (by omega) (by omega) dL_isSo_247 (by decide) (fun c_12 => by exfalso; exact c_12 hc3) (fun c_13 => ?_)
              refine lv_aload_n hx hb dL_isSo_250 rfl (lv_at hl 9 rfl) ?_
              refine n_iconst hx hb 4 dL_isSo_251 (by decide) ?_
              refine k_lwS (As := [.ref (w 0), .int (nI 4)]) (rest := []) (wc := ([(aq, .inl (T 0, 12, .inl fq)), (at9, .inl (T 0, 60, .inl ft)), (ar, .inl (T 0, 30, .inl fr)), (ab, .inl (T 0, 3, .inl fb))] ++ oC T (w, q, qz, h, qs, t, gr, u, tr, oc) (Sw, S, Z, Sh, Hs, X, Gg, U, gTr K S tl, O))) (wr := []) (w1 := ([(aq, .inl (T 0, 12, .inl fq)), (at9, .inl (T 0, 60, .inl ft)), (ar, .inl (T 0, 30, .inl fr)), (ab, .inl (T 0, 3, .inl fb))] ++ oC T (w, q, qz, h, qs, t, gr, u, tr, oc) (Sw, S, Z, Sh, Hs, X, Gg, U, gTr K S tl, O))) (d := 3) (mc := 0) (ms := 0) (v := pCt S n 4) cx (RWi.fr (c_L_count l G T H.size w q qz h qs t gr u tr oc Sw S Z Sh Hs X Gg U (gTr K S tl) O n 4 hn (by omega) (by first | assumption | rfl | omega)) (Fr.head [(aq, .inl (T 0, 12, .inl fq)), (at9, .inl (T 0, 60, .inl ft)), (ar, .inl (T 0, 30, .inl fr)), (ab, .inl (T 0, 3, .inl fb))] (oC T (w, q, qz, h, qs, t, gr, u, tr, oc) (Sw, S, Z, Sh, Hs, X, Gg, U, gTr K S tl, O)) (oC T (w, q, qz, h, qs, t, gr, u, tr, oc) (Sw, S, Z, Sh, Hs, X, Gg, U, gTr K S tl, O)))) (vx_cwSW 2 hts gL_isSo_L_count rfl rfl rfl (by decide +kernel) ⟨Nat.le_of_ble_eq_true rfl, Nat.le_of_ble_eq_true rfl⟩) (kN_full hP hD hS hA hE hK) rfl hl.1 rfl (Nat.le_of_ble_eq_true rfl) dL_isSo_252 ⟨Nat.le_of_ble_eq_true rfl, Nat.le_of_ble_eq_true rfl⟩ (fun H locs hP hD hS hz => ?_)
              have hP : va_P G vwCl ([(aq, .inl (T 0, 12, .inl fq)), (at9, .inl (T 0, 60, .inl ft)), (ar, .inl (T 0, 30, .inl fr)), (ab, .inl (T 0, 3, .inl fb))] ++ oC T (w, q, qz, h, qs, t, gr, u, tr, oc) (Sw, S, Z, Sh, Hs, X, Gg, U, gTr K S tl, O)) H := hP
              have hD : va_D A ([(aq, .inl (T 0, 12, .inl fq)), (at9, .inl (T 0, 60, .inl ft)), (ar, .inl (T 0, 30, .inl fr)), (ab, .inl (T 0, 3, .inl fb))] ++ oC T (w, q, qz, h, qs, t, gr, u, tr, oc) (Sw, S, Z, Sh, Hs, X, Gg, U, gTr K S tl, O)) := hD
              refine lv_iload hx hb dL_isSo_255 (lv_at hl 7 rfl) ?_
              refine lv_icmp_ne (tgt := 355) hx hb dL_isSo_257 (by decide) (fun c_14 => by exfalso; exact c_14 hc4) (fun c_15 => ?_)
              refine lv_aload_n hx hb dL_isSo_260 rfl (lv_at hl 9 rfl) ?_
              refine n_iconst hx hb 5 dL_isSo_261 (by decide) ?_
              refine k_lwS (As := [.ref (w 0), .int (nI 5)]) (rest := []) (wc := ([(aq, .inl (T 0, 12, .inl fq)), (at9, .inl (T 0, 60, .inl ft)), (ar, .inl (T 0, 30, .inl fr)), (ab, .inl (T 0, 3, .inl fb))] ++ oC T (w, q, qz, h, qs, t, gr, u, tr, oc) (Sw, S, Z, Sh, Hs, X, Gg, U, gTr K S tl, O))) (wr := []) (w1 := ([(aq, .inl (T 0, 12, .inl fq)), (at9, .inl (T 0, 60, .inl ft)), (ar, .inl (T 0, 30, .inl fr)), (ab, .inl (T 0, 3, .inl fb))] ++ oC T (w, q, qz, h, qs, t, gr, u, tr, oc) (Sw, S, Z, Sh, Hs, X, Gg, U, gTr K S tl, O))) (d := 3) (mc := 0) (ms := 0) (v := pCt S n 5) cx (RWi.fr (c_L_count l G T H.size w q qz h qs t gr u tr oc Sw S Z Sh Hs X Gg U (gTr K S tl) O n 5 hn (by omega) (by first | assumption | rfl | omega)) (Fr.head [(aq, .inl (T 0, 12, .inl fq)), (at9, .inl (T 0, 60, .inl ft)), (ar, .inl (T 0, 30, .inl fr)), (ab, .inl (T 0, 3, .inl fb))] (oC T (w, q, qz, h, qs, t, gr, u, tr, oc) (Sw, S, Z, Sh, Hs, X, Gg, U, gTr K S tl, O)) (oC T (w, q, qz, h, qs, t, gr, u, tr, oc) (Sw, S, Z, Sh, Hs, X, Gg, U, gTr K S tl, O)))) (vx_cwSW 2 hts gL_isSo_L_count rfl rfl rfl (by decide +kernel) ⟨Nat.le_of_ble_eq_true rfl, Nat.le_of_ble_eq_true rfl⟩) (kN_full hP hD hS hA hE hK) rfl hl.1 rfl (Nat.le_of_ble_eq_true rfl) dL_isSo_262 ⟨Nat.le_of_ble_eq_true rfl, Nat.le_of_ble_eq_true rfl⟩ (fun H locs hP hD hS hz => ?_)
              have hP : va_P G vwCl ([(aq, .inl (T 0, 12, .inl fq)), (at9, .inl (T 0, 60, .inl ft)), (ar, .inl (T 0, 30, .inl fr)), (ab, .inl (T 0, 3, .inl fb))] ++ oC T (w, q, qz, h, qs, t, gr, u, tr, oc) (Sw, S, Z, Sh, Hs, X, Gg, U, gTr K S tl, O)) H := hP
              have hD : va_D A ([(aq, .inl (T 0, 12, .inl fq)), (at9, .inl (T 0, 60, .inl ft)), (ar, .inl (T 0, 30, .inl fr)), (ab, .inl (T 0, 3, .inl fb))] ++ oC T (w, q, qz, h, qs, t, gr, u, tr, oc) (Sw, S, Z, Sh, Hs, X, Gg, U, gTr K S tl, O)) := hD
              refine lv_aload_n hx hb dL_isSo_265 rfl (lv_at hl 11 rfl) ?_
              refine n_iconst hx hb 2 dL_isSo_266 (by decide) ?_
              refine n_iald hx hb hK hP 0 0 rfl rfl 2 (by decide) (by decide) dL_isSo_267 ?_
              refine lv_icmp_ne (tgt := 355) hx hb dL_isSo_268 (by decide) (fun c_16 => by exfalso; exact c_16 hc5) (fun c_17 => ?_)
              refine lv_aload_n hx hb dL_isSo_271 rfl (lv_at hl 9 rfl) ?_
              refine lv_bipush (v := nI 6) hx hb dL_isSo_272 (by decide) ?_
              refine k_lwS (As := [.ref (w 0), .int (nI 6)]) (rest := []) (wc := ([(aq, .inl (T 0, 12, .inl fq)), (at9, .inl (T 0, 60, .inl ft)), (ar, .inl (T 0, 30, .inl fr)), (ab, .inl (T 0, 3, .inl fb))] ++ oC T (w, q, qz, h, qs, t, gr, u, tr, oc) (Sw, S, Z, Sh, Hs, X, Gg, U, gTr K S tl, O))) (wr := []) (w1 := ([(aq, .inl (T 0, 12, .inl fq)), (at9, .inl (T 0, 60, .inl ft)), (ar, .inl (T 0, 30, .inl fr)), (ab, .inl (T 0, 3, .inl fb))] ++ oC T (w, q, qz, h, qs, t, gr, u, tr, oc) (Sw, S, Z, Sh, Hs, X, Gg, U, gTr K S tl, O))) (d := 3) (mc := 0) (ms := 0) (v := pCt S n 6) cx (RWi.fr (c_L_count l G T H.size w q qz h qs t gr u tr oc Sw S Z Sh Hs X Gg U (gTr K S tl) O n 6 hn (by omega) (by first | assumption | rfl | omega)) (Fr.head [(aq, .inl (T 0, 12, .inl fq)), (at9, .inl (T 0, 60, .inl ft)), (ar, .inl (T 0, 30, .inl fr)), (ab, .inl (T 0, 3, .inl fb))] (oC T (w, q, qz, h, qs, t, gr, u, tr, oc) (Sw, S, Z, Sh, Hs, X, Gg, U, gTr K S tl, O)) (oC T (w, q, qz, h, qs, t, gr, u, tr, oc) (Sw, S, Z, Sh, Hs, X, Gg, U, gTr K S tl, O)))) (vx_cwSW 2 hts gL_isSo_L_count rfl rfl rfl (by decide +kernel) ⟨Nat.le_of_ble_eq_true rfl, Nat.le_of_ble_eq_true rfl⟩) (kN_full hP hD hS hA hE hK) rfl hl.1 rfl (Nat.le_of_ble_eq_true rfl) dL_isSo_274 ⟨Nat.le_of_ble_eq_true rfl, Nat.le_of_ble_eq_true rfl⟩ (fun H locs hP hD hS hz => ?_)
              have hP : va_P G vwCl ([(aq, .inl (T 0, 12, .inl fq)), (at9, .inl (T 0, 60, .inl ft)), (ar, .inl (T 0, 30, .inl fr)), (ab, .inl (T 0, 3, .inl fb))] ++ oC T (w, q, qz, h, qs, t, gr, u, tr, oc) (Sw, S, Z, Sh, Hs, X, Gg, U, gTr K S tl, O)) H := hP
              have hD : va_D A ([(aq, .inl (T 0, 12, .inl fq)), (at9, .inl (T 0, 60, .inl ft)), (ar, .inl (T 0, 30, .inl fr)), (ab, .inl (T 0, 3, .inl fb))] ++ oC T (w, q, qz, h, qs, t, gr, u, tr, oc) (Sw, S, Z, Sh, Hs, X, Gg, U, gTr K S tl, O)) := hD
              refine lv_iload hx hb dL_isSo_277 (lv_at hl 6 rfl) ?_
              refine lv_icmp_ne (tgt := 355) hx hb dL_isSo_279 (by decide) (fun c_18 => by exfalso; exact c_18 hc6) (fun c_19 => ?_)
              refine lv_aload_n hx hb dL_isSo_282 rfl (lv_at hl 9 rfl) ?_
              refine lv_bipush (v := nI 7) hx hb dL_isSo_283 (by decide) ?_
              refine k_lwS (As := [.ref (w 0), .int (nI 7)]) (rest := []) (wc := ([(aq, .inl (T 0, 12, .inl fq)), (at9, .inl (T 0, 60, .inl ft)), (ar, .inl (T 0, 30, .inl fr)), (ab, .inl (T 0, 3, .inl fb))] ++ oC T (w, q, qz, h, qs, t, gr, u, tr, oc) (Sw, S, Z, Sh, Hs, X, Gg, U, gTr K S tl, O))) (wr := []) (w1 := ([(aq, .inl (T 0, 12, .inl fq)), (at9, .inl (T 0, 60, .inl ft)), (ar, .inl (T 0, 30, .inl fr)), (ab, .inl (T 0, 3, .inl fb))] ++ oC T (w, q, qz, h, qs, t, gr, u, tr, oc) (Sw, S, Z, Sh, Hs, X, Gg, U, gTr K S tl, O))) (d := 3) (mc := 0) (ms := 0) (v := pCt S n 7) cx (RWi.fr (c_L_count l G T H.size w q qz h qs t gr u tr oc Sw S Z Sh Hs X Gg U (gTr K S tl) O n 7 hn (by omega) (by first | assumption | rfl | omega)) (Fr.head [(aq, .inl (T 0, 12, .inl fq)), (at9, .inl (T 0, 60, .inl ft)), (ar, .inl (T 0, 30, .inl fr)), (ab, .inl (T 0, 3, .inl fb))] (oC T (w, q, qz, h, qs, t, gr, u, tr, oc) (Sw, S, Z, Sh, Hs, X, Gg, U, gTr K S tl, O)) (oC T (w, q, qz, h, qs, t, gr, u, tr, oc) (Sw, S, Z, Sh, Hs, X, Gg, U, gTr K S tl, O)))) (vx_cwSW 2 hts gL_isSo_L_count rfl rfl rfl (by decide +kernel) ⟨Nat.le_of_ble_eq_true rfl, Nat.le_of_ble_eq_true rfl⟩) (kN_full hP hD hS hA hE hK) rfl hl.1 rfl (Nat.le_of_ble_eq_true rfl) dL_isSo_285 ⟨Nat.le_of_ble_eq_true rfl, Nat.le_of_ble_eq_true rfl⟩ (fun H locs hP hD hS hz => ?_)
              have hP : va_P G vwCl ([(aq, .inl (T 0, 12, .inl fq)), (at9, .inl (T 0, 60, .inl ft)), (ar, .inl (T 0, 30, .inl fr)), (ab, .inl (T 0, 3, .inl fb))] ++ oC T (w, q, qz, h, qs, t, gr, u, tr, oc) (Sw, S, Z, Sh, Hs, X, Gg, U, gTr K S tl, O)) H := hP
              have hD : va_D A ([(aq, .inl (T 0, 12, .inl fq)), (at9, .inl (T 0, 60, .inl ft)), (ar, .inl (T 0, 30, .inl fr)), (ab, .inl (T 0, 3, .inl fb))] ++ oC T (w, q, qz, h, qs, t, gr, u, tr, oc) (Sw, S, Z, Sh, Hs, X, Gg, U, gTr K S tl, O)) := hD
              refine lv_iload hx hb dL_isSo_288 (lv_at hl 5 rfl) ?_
              refine lv_icmp_ne (tgt := 355) hx hb dL_isSo_290 (by decide) (fun c_20 => by exfalso; exact c_20 hc7) (fun c_21 => ?_)
              refine lv_aload_n hx hb dL_isSo_293 rfl (lv_at hl 9 rfl) ?_
              refine lv_bipush (v := nI 8) hx hb dL_isSo_294 (by decide) ?_
              refine k_lwS (As := [.ref (w 0), .int (nI 8)]) (rest := []) (wc := ([(aq, .inl (T 0, 12, .inl fq)), (at9, .inl (T 0, 60, .inl ft)), (ar, .inl (T 0, 30, .inl fr)), (ab, .inl (T 0, 3, .inl fb))] ++ oC T (w, q, qz, h, qs, t, gr, u, tr, oc) (Sw, S, Z, Sh, Hs, X, Gg, U, gTr K S tl, O))) (wr := []) (w1 := ([(aq, .inl (T 0, 12, .inl fq)), (at9, .inl (T 0, 60, .inl ft)), (ar, .inl (T 0, 30, .inl fr)), (ab, .inl (T 0, 3, .inl fb))] ++ oC T (w, q, qz, h, qs, t, gr, u, tr, oc) (Sw, S, Z, Sh, Hs, X, Gg, U, gTr K S tl, O))) (d := 3) (mc := 0) (ms := 0) (v := pCt S n 8) cx (RWi.fr (c_L_count l G T H.size w q qz h qs t gr u tr oc Sw S Z Sh Hs X Gg U (gTr K S tl) O n 8 hn (by omega) (by first | assumption | rfl | omega)) (Fr.head [(aq, .inl (T 0, 12, .inl fq)), (at9, .inl (T 0, 60, .inl ft)), (ar, .inl (T 0, 30, .inl fr)), (ab, .inl (T 0, 3, .inl fb))] (oC T (w, q, qz, h, qs, t, gr, u, tr, oc) (Sw, S, Z, Sh, Hs, X, Gg, U, gTr K S tl, O)) (oC T (w, q, qz, h, qs, t, gr, u, tr, oc) (Sw, S, Z, Sh, Hs, X, Gg, U, gTr K S tl, O)))) (vx_cwSW 2 hts gL_isSo_L_count rfl rfl rfl (by decide +kernel) ⟨Nat.le_of_ble_eq_true rfl, Nat.le_of_ble_eq_true rfl⟩) (kN_full hP hD hS hA hE hK) rfl hl.1 rfl (Nat.le_of_ble_eq_true rfl) dL_isSo_296 ⟨Nat.le_of_ble_eq_true rfl, Nat.le_of_ble_eq_true rfl⟩ (fun H locs hP hD hS hz => ?_)
              have hP : va_P G vwCl ([(aq, .inl (T 0, 12, .inl fq)), (at9, .inl (T 0, 60, .inl ft)), (ar, .inl (T 0, 30, .inl fr)), (ab, .inl (T 0, 3, .inl fb))] ++ oC T (w, q, qz, h, qs, t, gr, u, tr, oc) (Sw, S, Z, Sh, Hs, X, Gg, U, gTr K S tl, O)) H := hP
              have hD : va_D A ([(aq, .inl (T 0, 12, .inl fq)), (at9, .inl (T 0, 60, .inl ft)), (ar, .inl (T 0, 30, .inl fr)), (ab, .inl (T 0, 3, .inl fb))] ++ oC T (w, q, qz, h, qs, t, gr, u, tr, oc) (Sw, S, Z, Sh, Hs, X, Gg, U, gTr K S tl, O)) := hD
              refine lv_aload_n hx hb dL_isSo_299 rfl (lv_at hl 11 rfl) ?_
              refine n_iconst hx hb 5 dL_isSo_300 (by decide) ?_
              refine n_iald hx hb hK hP 0 0 rfl rfl 5 (by decide) (by decide) dL_isSo_301 ?_
              refine lv_icmp_ne (tgt := 355) hx hb dL_isSo_302 (by decide) (fun c_22 => by exfalso; exact c_22 hc8) (fun c_23 => ?_)
              refine lv_aload_n hx hb dL_isSo_305 rfl (lv_at hl 9 rfl) ?_
              refine lv_bipush (v := nI 9) hx hb dL_isSo_306 (by decide) ?_
              refine k_lwS (As := [.ref (w 0), .int (nI 9)]) (rest := []) (wc := ([(aq, .inl (T 0, 12, .inl fq)), (at9, .inl (T 0, 60, .inl ft)), (ar, .inl (T 0, 30, .inl fr)), (ab, .inl (T 0, 3, .inl fb))] ++ oC T (w, q, qz, h, qs, t, gr, u, tr, oc) (Sw, S, Z, Sh, Hs, X, Gg, U, gTr K S tl, O))) (wr := []) (w1 := ([(aq, .inl (T 0, 12, .inl fq)), (at9, .inl (T 0, 60, .inl ft)), (ar, .inl (T 0, 30, .inl fr)), (ab, .inl (T 0, 3, .inl fb))] ++ oC T (w, q, qz, h, qs, t, gr, u, tr, oc) (Sw, S, Z, Sh, Hs, X, Gg, U, gTr K S tl, O))) (d := 3) (mc := 0) (ms := 0) (v := pCt S n 9) cx (RWi.fr (c_L_count l G T H.size w q qz h qs t gr u tr oc Sw S Z Sh Hs X Gg U (gTr K S tl) O n 9 hn (by omega) (by first | assumption | rfl | omega)) (Fr.head [(aq, .inl (T 0, 12, .inl fq)), (at9, .inl (T 0, 60, .inl ft)), (ar, .inl (T 0, 30, .inl fr)), (ab, .inl (T 0, 3, .inl fb))] (oC T (w, q, qz, h, qs, t, gr, u, tr, oc) (Sw, S, Z, Sh, Hs, X, Gg, U, gTr K S tl, O)) (oC T (w, q, qz, h, qs, t, gr, u, tr, oc) (Sw, S, Z, Sh, Hs, X, Gg, U, gTr K S tl, O)))) (vx_cwSW 2 hts gL_isSo_L_count rfl rfl rfl (by decide +kernel) ⟨Nat.le_of_ble_eq_true rfl, Nat.le_of_ble_eq_true rfl⟩) (kN_full hP hD hS hA hE hK) rfl hl.1 rfl (Nat.le_of_ble_eq_true rfl) dL_isSo_308 ⟨Nat.le_of_ble_eq_true rfl, Nat.le_of_ble_eq_true rfl⟩ (fun H locs hP hD hS hz => ?_)
              have hP : va_P G vwCl ([(aq, .inl (T 0, 12, .inl fq)), (at9, .inl (T 0, 60, .inl ft)), (ar, .inl (T 0, 30, .inl fr)), (ab, .inl (T 0, 3, .inl fb))] ++ oC T (w, q, qz, h, qs, t, gr, u, tr, oc) (Sw, S, Z, Sh, Hs, X, Gg, U, gTr K S tl, O)) H := hP
              have hD : va_D A ([(aq, .inl (T 0, 12, .inl fq)), (at9, .inl (T 0, 60, .inl ft)), (ar, .inl (T 0, 30, .inl fr)), (ab, .inl (T 0, 3, .inl fb))] ++ oC T (w, q, qz, h, qs, t, gr, u, tr, oc) (Sw, S, Z, Sh, Hs, X, Gg, U, gTr K S tl, O)) := hD
              refine lv_iload hx hb dL_isSo_311 (lv_at hl 4 rfl) ?_
              refine lv_icmp_ne (tgt := 355) hx hb dL_isSo_313 (by decide) (fun c_24 => by exfalso; exact c_24 hc9) (fun c_25 => ?_)
              refine lv_aload_n hx hb dL_isSo_316 rfl (lv_at hl 9 rfl) ?_
              refine lv_bipush (v := nI 10) hx hb dL_isSo_317 (by decide) ?_
              refine k_lwS (As := [.ref (w 0), .int (nI 10)]) (rest := []) (wc := ([(aq, .inl (T 0, 12, .inl fq)), (at9, .inl (T 0, 60, .inl ft)), (ar, .inl (T 0, 30, .inl fr)), (ab, .inl (T 0, 3, .inl fb))] ++ oC T (w, q, qz, h, qs, t, gr, u, tr, oc) (Sw, S, Z, Sh, Hs, X, Gg, U, gTr K S tl, O))) (wr := []) (w1 := ([(aq, .inl (T 0, 12, .inl fq)), (at9, .inl (T 0, 60, .inl ft)), (ar, .inl (T 0, 30, .inl fr)), (ab, .inl (T 0, 3, .inl fb))] ++ oC T (w, q, qz, h, qs, t, gr, u, tr, oc) (Sw, S, Z, Sh, Hs, X, Gg, U, gTr K S tl, O))) (d := 3) (mc := 0) (ms := 0) (v := pCt S n 10) cx (RWi.fr (c_L_count l G T H.size w q qz h qs t gr u tr oc Sw S Z Sh Hs X Gg U (gTr K S tl) O n 10 hn (by omega) (by first | assumption | rfl | omega)) (Fr.head [(aq, .inl (T 0, 12, .inl fq)), (at9, .inl (T 0, 60, .inl ft)), (ar, .inl (T 0, 30, .inl fr)), (ab, .inl (T 0, 3, .inl fb))] (oC T (w, q, qz, h, qs, t, gr, u, tr, oc) (Sw, S, Z, Sh, Hs, X, Gg, U, gTr K S tl, O)) (oC T (w, q, qz, h, qs, t, gr, u, tr, oc) (Sw, S, Z, Sh, Hs, X, Gg, U, gTr K S tl, O)))) (vx_cwSW 2 hts gL_isSo_L_count rfl rfl rfl (by decide +kernel) ⟨Nat.le_of_ble_eq_true rfl, Nat.le_of_ble_eq_true rfl⟩) (kN_full hP hD hS hA hE hK) rfl hl.1 rfl (Nat.le_of_ble_eq_true rfl) dL_isSo_319 ⟨Nat.le_of_ble_eq_true rfl, Nat.le_of_ble_eq_true rfl⟩ (fun H locs hP hD hS hz => ?_)
              have hP : va_P G vwCl ([(aq, .inl (T 0, 12, .inl fq)), (at9, .inl (T 0, 60, .inl ft)), (ar, .inl (T 0, 30, .inl fr)), (ab, .inl (T 0, 3, .inl fb))] ++ oC T (w, q, qz, h, qs, t, gr, u, tr, oc) (Sw, S, Z, Sh, Hs, X, Gg, U, gTr K S tl, O)) H := hP
              have hD : va_D A ([(aq, .inl (T 0, 12, .inl fq)), (at9, .inl (T 0, 60, .inl ft)), (ar, .inl (T 0, 30, .inl fr)), (ab, .inl (T 0, 3, .inl fb))] ++ oC T (w, q, qz, h, qs, t, gr, u, tr, oc) (Sw, S, Z, Sh, Hs, X, Gg, U, gTr K S tl, O)) := hD
              refine lv_iload hx hb dL_isSo_322 (lv_at hl 1 rfl) ?_
              refine lv_icmp_ne (tgt := 355) hx hb dL_isSo_324 (by decide) (fun c_26 => by exfalso; exact c_26 hc10) (fun c_27 => ?_)
              refine lv_aload_n hx hb dL_isSo_327 rfl (lv_at hl 9 rfl) ?_
              refine lv_bipush (v := nI 11) hx hb dL_isSo_328 (by decide) ?_
              refine k_lwS (As := [.ref (w 0), .int (nI 11)]) (rest := []) (wc := ([(aq, .inl (T 0, 12, .inl fq)), (at9, .inl (T 0, 60, .inl ft)), (ar, .inl (T 0, 30, .inl fr)), (ab, .inl (T 0, 3, .inl fb))] ++ oC T (w, q, qz, h, qs, t, gr, u, tr, oc) (Sw, S, Z, Sh, Hs, X, Gg, U, gTr K S tl, O))) (wr := []) (w1 := ([(aq, .inl (T 0, 12, .inl fq)), (at9, .inl (T 0, 60, .inl ft)), (ar, .inl (T 0, 30, .inl fr)), (ab, .inl (T 0, 3, .inl fb))] ++ oC T (w, q, qz, h, qs, t, gr, u, tr, oc) (Sw, S, Z, Sh, Hs, X, Gg, U, gTr K S tl, O))) (d := 3) (mc := 0) (ms := 0) (v := pCt S n 11) cx (RWi.fr (c_L_count l G T H.size w q qz h qs t gr u tr oc Sw S Z Sh Hs X Gg U (gTr K S tl) O n 11 hn (by omega) (by first | assumption | rfl | omega)) (Fr.head [(aq, .inl (T 0, 12, .inl fq)), (at9, .inl (T 0, 60, .inl ft)), (ar, .inl (T 0, 30, .inl fr)), (ab, .inl (T 0, 3, .inl fb))] (oC T (w, q, qz, h, qs, t, gr, u, tr, oc) (Sw, S, Z, Sh, Hs, X, Gg, U, gTr K S tl, O)) (oC T (w, q, qz, h, qs, t, gr, u, tr, oc) (Sw, S, Z, Sh, Hs, X, Gg, U, gTr K S tl, O)))) (vx_cwSW 2 hts gL_isSo_L_count rfl rfl rfl (by decide +kernel) ⟨Nat.le_of_ble_eq_true rfl, Nat.le_of_ble_eq_true rfl⟩) (kN_full hP hD hS hA hE hK) rfl hl.1 rfl (Nat.le_of_ble_eq_true rfl) dL_isSo_330 ⟨Nat.le_of_ble_eq_true rfl, Nat.le_of_ble_eq_true rfl⟩ (fun H locs hP hD hS hz => ?_)
              have hP : va_P G vwCl ([(aq, .inl (T 0, 12, .inl fq)), (at9, .inl (T 0, 60, .inl ft)), (ar, .inl (T 0, 30, .inl fr)), (ab, .inl (T 0, 3, .inl fb))] ++ oC T (w, q, qz, h, qs, t, gr, u, tr, oc) (Sw, S, Z, Sh, Hs, X, Gg, U, gTr K S tl, O)) H := hP
              have hD : va_D A ([(aq, .inl (T 0, 12, .inl fq)), (at9, .inl (T 0, 60, .inl ft)), (ar, .inl (T 0, 30, .inl fr)), (ab, .inl (T 0, 3, .inl fb))] ++ oC T (w, q, qz, h, qs, t, gr, u, tr, oc) (Sw, S, Z, Sh, Hs, X, Gg, U, gTr K S tl, O)) := hD
              refine lv_aload_n hx hb dL_isSo_333 rfl (lv_at hl 11 rfl) ?_
              refine n_iconst hx hb 3 dL_isSo_334 (by decide) ?_
              refine n_iald hx hb hK hP 0 0 rfl rfl 3 (by decide) (by decide) dL_isSo_335 ?_
              refine lv_icmp_ne (tgt := 355) hx hb dL_isSo_336 (by decide) (fun c_28 => by exfalso; exact c_28 hc11) (fun c_29 => ?_)
              refine lv_aload_n hx hb dL_isSo_339 rfl (lv_at hl 9 rfl) ?_
              refine lv_bipush (v := nI 12) hx hb dL_isSo_340 (by decide) ?_
              refine k_lwS (As := [.ref (w 0), .int (nI 12)]) (rest := []) (wc := ([(aq, .inl (T 0, 12, .inl fq)), (at9, .inl (T 0, 60, .inl ft)), (ar, .inl (T 0, 30, .inl fr)), (ab, .inl (T 0, 3, .inl fb))] ++ oC T (w, q, qz, h, qs, t, gr, u, tr, oc) (Sw, S, Z, Sh, Hs, X, Gg, U, gTr K S tl, O))) (wr := []) (w1 := ([(aq, .inl (T 0, 12, .inl fq)), (at9, .inl (T 0, 60, .inl ft)), (ar, .inl (T 0, 30, .inl fr)), (ab, .inl (T 0, 3, .inl fb))] ++ oC T (w, q, qz, h, qs, t, gr, u, tr, oc) (Sw, S, Z, Sh, Hs, X, Gg, U, gTr K S tl, O))) (d := 3) (mc := 0) (ms := 0) (v := pCt S n 12) cx (RWi.fr (c_L_count l G T H.size w q qz h qs t gr u tr oc Sw S Z Sh Hs X Gg U (gTr K S tl) O n 12 hn (by omega) (by first | assumption | rfl | omega)) (Fr.head [(aq, .inl (T 0, 12, .inl fq)), (at9, .inl (T 0, 60, .inl ft)), (ar, .inl (T 0, 30, .inl fr)), (ab, .inl (T 0, 3, .inl fb))] (oC T (w, q, qz, h, qs, t, gr, u, tr, oc) (Sw, S, Z, Sh, Hs, X, Gg, U, gTr K S tl, O)) (oC T (w, q, qz, h, qs, t, gr, u, tr, oc) (Sw, S, Z, Sh, Hs, X, Gg, U, gTr K S tl, O)))) (vx_cwSW 2 hts gL_isSo_L_count rfl rfl rfl (by decide +kernel) ⟨Nat.le_of_ble_eq_true rfl, Nat.le_of_ble_eq_true rfl⟩) (kN_full hP hD hS hA hE hK) rfl hl.1 rfl (Nat.le_of_ble_eq_true rfl) dL_isSo_342 ⟨Nat.le_of_ble_eq_true rfl, Nat.le_of_ble_eq_true rfl⟩ (fun H locs hP hD hS hz => ?_)
              have hP : va_P G vwCl ([(aq, .inl (T 0, 12, .inl fq)), (at9, .inl (T 0, 60, .inl ft)), (ar, .inl (T 0, 30, .inl fr)), (ab, .inl (T 0, 3, .inl fb))] ++ oC T (w, q, qz, h, qs, t, gr, u, tr, oc) (Sw, S, Z, Sh, Hs, X, Gg, U, gTr K S tl, O)) H := hP
              have hD : va_D A ([(aq, .inl (T 0, 12, .inl fq)), (at9, .inl (T 0, 60, .inl ft)), (ar, .inl (T 0, 30, .inl fr)), (ab, .inl (T 0, 3, .inl fb))] ++ oC T (w, q, qz, h, qs, t, gr, u, tr, oc) (Sw, S, Z, Sh, Hs, X, Gg, U, gTr K S tl, O)) := hD
              refine lv_aload_n hx hb dL_isSo_345 rfl (lv_at hl 11 rfl) ?_
              refine n_iconst hx hb 4 dL_isSo_346 (by decide) ?_
              refine n_iald hx hb hK hP 0 0 rfl rfl 4 (by decide) (by decide) dL_isSo_347 ?_
              refine lv_icmp_ne (tgt := 355) hx hb dL_isSo_348 (by decide) (fun c_30 => by exfalso; exact c_30 hc12) (fun c_31 => ?_)
              refine n_iconst hx hb 1 dL_isSo_351 (by decide) ?_
              refine lv_goto (tgt := 356) hx hb dL_isSo_352 (by decide) ?_
              refine lv_istore (lv' := [(14, .int (nI 1)), (13, .int (sGg fq fr 6)), (12, .int (sRr fr 4 6)), (11, .int (sRr fr 3 6)), (10, .int (sRr fr 1 6)), (9, .int (nI (sSs fq fr 6))), (8, .int (sRr fr 2 6)), (7, .int (nI (sM tn 20))), (6, .int (nI (sT tn 20))), (0, .ref (w 0)), (1, .int xx), (2, .ref aq), (3, .ref at9), (4, .ref ar), (5, .ref ab)]) hx hb dL_isSo_356 hl (by decide) rfl (fun ls hl => ?_)
              refine n_iconst hx hb 0 dL_isSo_358 (by decide) ?_
              refine lv_istore (lv' := [(15, .int (nI 0)), (14, .int (nI 1)), (13, .int (sGg fq fr 6)), (12, .int (sRr fr 4 6)), (11, .int (sRr fr 3 6)), (10, .int (sRr fr 1 6)), (9, .int (nI (sSs fq fr 6))), (8, .int (sRr fr 2 6)), (7, .int (nI (sM tn 20))), (6, .int (nI (sT tn 20))), (0, .ref (w 0)), (1, .int xx), (2, .ref aq), (3, .ref at9), (4, .ref ar), (5, .ref ab)]) hx hb dL_isSo_359 hl (by decide) rfl (fun ls hl => ?_)
              have L361_i_32 : ∀ (n9 k : Nat) (hk1 : k ≤ 6) (hk2 : 6 - k < n9) (x15 : Int32) (hx15 : x15 = nI k) (H : Heap) (locs : List Loc) (hP : va_P G vwCl ([(aq, .inl (T 0, 12, .inl fq)), (at9, .inl (T 0, 60, .inl ft)), (ar, .inl (T 0, 30, .inl fr)), (ab, .inl (T 0, 3, .inl fb))] ++ oC T (w, q, qz, h, qs, t, gr, u, tr, oc) (Sw, S, Z, Sh, Hs, X, Gg, U, gTr K S tl, O)) H) (hD : va_D A ([(aq, .inl (T 0, 12, .inl fq)), (at9, .inl (T 0, 60, .inl ft)), (ar, .inl (T 0, 30, .inl fr)), (ab, .inl (T 0, 3, .inl fb))] ++ oC T (w, q, qz, h, qs, t, gr, u, tr, oc) (Sw, S, Z, Sh, Hs, X, Gg, U, gTr K S tl, O))) (hS : va_S A s.heap H locs) (ls : Array Slot) (hl : lv_has ls 16 [(15, .int x15), (14, .int (nI 1)), (13, .int (sGg fq fr 6)), (12, .int (sRr fr 4 6)), (11, .int (sRr fr 3 6)), (10, .int (sRr fr 1 6)), (9, .int (nI (sSs fq fr 6))), (8, .int (sRr fr 2 6)), (7, .int (nI (sM tn 20))), (6, .int (nI (sT tn 20))), (0, .ref (w 0)), (1, .int xx), (2, .ref aq), (3, .ref at9), (4, .ref ar), (5, .ref ab)]), W p l e (headSpec wsL_isSo (rmD 17 0 0)).room s m args below meth c H locs 0 0 Q0 (F0 m 361 ls []) := by
                intro n9
                induction n9 with
                | zero => intros; omega
                | succ n9 ih361 =>
                  intro k hk1 hk2 x15 hx15 H locs hP hD hS ls hl
                  subst hx15
                  refine lv_iload hx hb dL_isSo_361 (lv_at hl 0 rfl) ?_
                  refine lv_bipush (v := nI 6) hx hb dL_isSo_363 (by decide) ?_
                  refine n_icmp_ge (a := k) (b := 6) (tgt := 402) hx hb (by omega) (by decide) dL_isSo_365 (by decide) (fun c_33 => ?_) (fun c_34 => ?_)
                  · skip
                    obtain rfl : k = 6 := (by omega)
                    refine lv_iload hx hb dL_isSo_402 (lv_at hl 1 rfl) ?_
                    refine n_if_eq (a := 1) (tgt := 441) hx hb (by decide) dL_isSo_404 (by decide) (fun h9 => absurd h9 (by decide)) (fun c_35 => ?_)
                    refine lv_aload_n hx hb dL_isSo_407 rfl (lv_at hl 10 rfl) ?_
                    refine k_rdV (As := []) (rest := []) (wc := ([(aq, .inl (T 0, 12, .inl fq)), (at9, .inl (T 0, 60, .inl ft)), (ar, .inl (T 0, 30, .inl fr)), (ab, .inl (T 0, 3, .inl fb))] ++ oC T (w, q, qz, h, qs, t, gr, u, tr, oc) (Sw, S, Z, Sh, Hs, X, Gg, U, gTr K S tl, O))) (wr := []) (w1 := ([(aq, .inl (T 0, 12, .inl fq)), (at9, .inl (T 0, 60, .inl ft)), (ar, .inl (T 0, 30, .inl fr)), (ab, .inl (T 0, 3, .inl fb))] ++ oC T (w, q, qz, h, qs, t, gr, u, tr, oc) (Sw, S, Z, Sh, Hs, X, Gg, U, gTr K S tl, O))) (d := 1) (mc := 0) (ms := 0) (v := cSh S) cx (RWd.fr (w_X7_understoodShare l G T H.size w q qz h qs t gr u tr oc Sw S Z Sh Hs X Gg U (gTr K S tl) O  ) (Fr.head [(aq, .inl (T 0, 12, .inl fq)), (at9, .inl (T 0, 60, .inl ft)), (ar, .inl (T 0, 30, .inl fr)), (ab, .inl (T 0, 3, .inl fb))] (oC T (w, q, qz, h, qs, t, gr, u, tr, oc) (Sw, S, Z, Sh, Hs, X, Gg, U, gTr K S tl, O)) (oC T (w, q, qz, h, qs, t, gr, u, tr, oc) (Sw, S, Z, Sh, Hs, X, Gg, U, gTr K S tl, O)))) (cwV 0 hts gL_isSo_X7_understoodShare rfl rfl rfl (by decide +kernel) ⟨Nat.le_of_ble_eq_true rfl, Nat.le_of_ble_eq_true rfl⟩) (kN_full hP hD hS hA hE hK) (va_recv hK hP (ci := 7) (q0 := 4) rfl rfl) rfl hl.1 rfl (Nat.le_of_ble_eq_true rfl) dL_isSo_408 ⟨Nat.le_of_ble_eq_true rfl, Nat.le_of_ble_eq_true rfl⟩ (fun H locs hP hD hS hz => ?_)
                    have hP : va_P G vwCl ([(aq, .inl (T 0, 12, .inl fq)), (at9, .inl (T 0, 60, .inl ft)), (ar, .inl (T 0, 30, .inl fr)), (ab, .inl (T 0, 3, .inl fb))] ++ oC T (w, q, qz, h, qs, t, gr, u, tr, oc) (Sw, S, Z, Sh, Hs, X, Gg, U, gTr K S tl, O)) H := hP
                    have hD : va_D A ([(aq, .inl (T 0, 12, .inl fq)), (at9, .inl (T 0, 60, .inl ft)), (ar, .inl (T 0, 30, .inl fr)), (ab, .inl (T 0, 3, .inl fb))] ++ oC T (w, q, qz, h, qs, t, gr, u, tr, oc) (Sw, S, Z, Sh, Hs, X, Gg, U, gTr K S tl, O)) := hD
                    refine lv_iload hx hb dL_isSo_411 (lv_at hl 4 rfl) ?_
                    refine lv_iload hx hb dL_isSo_413 (lv_at hl 3 rfl) ?_
                    refine lv_iadd hx hb dL_isSo_415 ?_
                    refine lv_if_ne (tgt := 423) hx hb dL_isSo_416 (by decide) (fun c_36 => ?_) (fun c_37 => ?_)
                    · skip
                      refine lv_iload hx hb dL_isSo_423 (lv_at hl 4 rfl) ?_
                      refine lv_i2d hx hb dL_isSo_425 ?_
                      refine lv_iload hx hb dL_isSo_426 (lv_at hl 4 rfl) ?_
                      refine lv_iload hx hb dL_isSo_428 (lv_at hl 3 rfl) ?_
                      refine lv_iadd hx hb dL_isSo_430 ?_
                      refine lv_i2d hx hb dL_isSo_431 ?_
                      refine lv_ddiv (x := FP.i2d (sRr fr 3 6)) (y := FP.i2d ((sRr fr 3 6) + (sRr fr 4 6))) hx hb dL_isSo_432 (ddiv_n64 _ _ c_36) ?_
                      refine lv_dcmp hx hb dL_isSo_433 ?_
                      refine lv_if_ne (tgt := 441) hx hb dL_isSo_434 (by decide) (fun c_38 => by exfalso; first | (rw [hs1 (by assumption), d1_self] at c_38; exact absurd c_38 (by decide)) | (rw [hs2 (by assumption), n64_self (ddiv_n64 _ _ (by assumption))] at c_38; exact absurd c_38 (by decide))) (fun c_39 => ?_)
                      refine n_iconst hx hb 1 dL_isSo_437 (by decide) ?_
                      refine lv_goto (tgt := 442) hx hb dL_isSo_438 (by decide) ?_
                      refine lv_istore (lv' := [(14, .int (nI 1)), (15, .int (nI 6)), (13, .int (sGg fq fr 6)), (12, .int (sRr fr 4 6)), (11, .int (sRr fr 3 6)), (10, .int (sRr fr 1 6)), (9, .int (nI (sSs fq fr 6))), (8, .int (sRr fr 2 6)), (7, .int (nI (sM tn 20))), (6, .int (nI (sT tn 20))), (0, .ref (w 0)), (1, .int xx), (2, .ref aq), (3, .ref at9), (4, .ref ar), (5, .ref ab)]) hx hb dL_isSo_442 hl (by decide) rfl (fun ls hl => ?_)
                      refine lv_iload hx hb dL_isSo_444 (lv_at hl 0 rfl) ?_
                      refine n_if_eq (a := 1) (tgt := 514) hx hb (by decide) dL_isSo_446 (by decide) (fun h9 => absurd h9 (by decide)) (fun c_40 => ?_)
                      refine lv_aload_n hx hb dL_isSo_449 rfl (lv_at hl 10 rfl) ?_
                      refine lv_iload_n hx hb dL_isSo_450 rfl (lv_at hl 11 rfl) ?_
                      refine lv_bipush (v := nI 20) hx hb dL_isSo_451 (by decide) ?_
                      refine k_roS (As := [.int xx, .int (nI 20)]) (rest := [.ref (w 0)]) (wc := []) (d := 0) (v := nI (loN xx 20)) cx (c_L_low l G T A xx 20 (by omega) (by omega)) (va_cwS 2 hts gL_isSo_L_low rfl rfl rfl (by decide +kernel) ⟨Nat.le_of_ble_eq_true rfl, Nat.le_of_ble_eq_true rfl⟩) (hP.sub (ws' := []) [] rfl) hK (hE.kept hS.2.1) rfl hl.1 rfl (Nat.le_of_ble_eq_true rfl) dL_isSo_453 ⟨Nat.le_of_ble_eq_true rfl, Nat.le_of_ble_eq_true rfl⟩ ?_
                      refine lv_aload_n hx hb dL_isSo_456 rfl (lv_at hl 12 rfl) ?_
                      refine lv_aload_n hx hb dL_isSo_457 rfl (lv_at hl 13 rfl) ?_
                      refine lv_aload hx hb dL_isSo_458 (lv_at hl 14 rfl) ?_
                      refine lv_aload hx hb dL_isSo_460 (lv_at hl 15 rfl) ?_
                      refine k_rwS (As := [.ref (w 0), .int (nI (loN xx 20)), .ref aq, .ref at9, .ref ar, .ref ab]) (rest := []) (wc := ([(aq, .inl (T 0, 12, .inl fq)), (at9, .inl (T 0, 60, .inl ft)), (ar, .inl (T 0, 30, .inl fr)), (ab, .inl (T 0, 3, .inl fb))] ++ oC T (w, q, qz, h, qs, t, gr, u, tr, oc) (Sw, S, Z, Sh, Hs, X, Gg, U, gTr K S tl, O))) (wr := []) (w1 := ([(aq, .inl (T 0, 12, .inl fq)), (at9, .inl (T 0, 60, .inl ft)), (ar, .inl (T 0, 30, .inl fr)), (ab, .inl (T 0, 3, .inl fb))] ++ oC T (w, q, qz, h, qs, t, gr, u, tr, oc) (Sw, S, Z, Sh, Hs, X, Gg, U, gTr K S tl, pBrO O S (loN xx 20) 6))) (d := 7) (mc := 0) (ms := 0) (v := nI 1) cx (c_L_isMessage l G T H.size aq fq at9 ft ar fr ab fb tn w q qz h qs t gr u tr oc Sw S Z Sh Hs X Gg U (gTr K S tl) O (loN xx 20) (by first | assumption | rfl | omega) (by omega) (by omega) (hM0 _ (by omega)) (hM1 _ (by omega)) (hM2 _ (by omega)) (hM3 _ (by omega)) (hMb _ (by omega)) (hMn _ (by omega)) (hMz _ (by omega))) (va_cwS 6 hts gL_isSo_L_isMessage rfl rfl rfl (by decide +kernel) ⟨Nat.le_of_ble_eq_true rfl, Nat.le_of_ble_eq_true rfl⟩) (kN_full hP hD hS hA hE hK) rfl hl.1 rfl (Nat.le_of_ble_eq_true rfl) dL_isSo_462 ⟨Nat.le_of_ble_eq_true rfl, Nat.le_of_ble_eq_true rfl⟩ (fun H locs hP hD hS hz => ?_)
                      have hP : va_P G vwCl ([(aq, .inl (T 0, 12, .inl fq)), (at9, .inl (T 0, 60, .inl ft)), (ar, .inl (T 0, 30, .inl fr)), (ab, .inl (T 0, 3, .inl fb))] ++ oC T (w, q, qz, h, qs, t, gr, u, tr, oc) (Sw, S, Z, Sh, Hs, X, Gg, U, gTr K S tl, pBrO O S (loN xx 20) 6)) H := hP
                      have hD : va_D A ([(aq, .inl (T 0, 12, .inl fq)), (at9, .inl (T 0, 60, .inl ft)), (ar, .inl (T 0, 30, .inl fr)), (ab, .inl (T 0, 3, .inl fb))] ++ oC T (w, q, qz, h, qs, t, gr, u, tr, oc) (Sw, S, Z, Sh, Hs, X, Gg, U, gTr K S tl, pBrO O S (loN xx 20) 6)) := hD
                      refine n_if_eq (a := 1) (tgt := 514) hx hb (by decide) dL_isSo_465 (by decide) (fun h9 => absurd h9 (by decide)) (fun c_41 => ?_)
                      refine lv_aload_n hx hb dL_isSo_468 rfl (lv_at hl 10 rfl) ?_
                      refine lv_iload_n hx hb dL_isSo_469 rfl (lv_at hl 11 rfl) ?_
                      refine n_iconst hx hb 5 dL_isSo_470 (by decide) ?_
                      refine x_ishr hx hb dL_isSo_471 ?_
                      refine lv_bipush (v := nI 6) hx hb dL_isSo_472 (by decide) ?_
                      refine k_roS (As := [.int (iShr xx (nI 5)), .int (nI 6)]) (rest := [.ref (w 0)]) (wc := []) (d := 0) (v := nI (loN (iShr xx (nI 5)) 6)) cx (c_L_low l G T A (iShr xx (nI 5)) 6 (by omega) (by omega)) (va_cwS 2 hts gL_isSo_L_low rfl rfl rfl (by decide +kernel) ⟨Nat.le_of_ble_eq_true rfl, Nat.le_of_ble_eq_true rfl⟩) (hP.sub (ws' := []) [] rfl) hK (hE.kept hS.2.1) rfl hl.1 rfl (Nat.le_of_ble_eq_true rfl) dL_isSo_474 ⟨Nat.le_of_ble_eq_true rfl, Nat.le_of_ble_eq_true rfl⟩ ?_
                      refine lv_iload_n hx hb dL_isSo_477 rfl (lv_at hl 11 rfl) ?_
                      refine lv_bipush (v := nI 8) hx hb dL_isSo_478 (by decide) ?_
                      refine x_ishr hx hb dL_isSo_480 ?_
                      refine lv_bipush (v := nI 20) hx hb dL_isSo_481 (by decide) ?_
                      refine k_roS (As := [.int (iShr xx (nI 8)), .int (nI 20)]) (rest := [.int (nI (loN (iShr xx (nI 5)) 6)), .ref (w 0)]) (wc := []) (d := 0) (v := nI (loN (iShr xx (nI 8)) 20)) cx (c_L_low l G T A (iShr xx (nI 8)) 20 (by omega) (by omega)) (va_cwS 2 hts gL_isSo_L_low rfl rfl rfl (by decide +kernel) ⟨Nat.le_of_ble_eq_true rfl, Nat.le_of_ble_eq_true rfl⟩) (hP.sub (ws' := []) [] rfl) hK (hE.kept hS.2.1) rfl hl.1 rfl (Nat.le_of_ble_eq_true rfl) dL_isSo_483 ⟨Nat.le_of_ble_eq_true rfl, Nat.le_of_ble_eq_true rfl⟩ ?_
                      refine lv_aload_n hx hb dL_isSo_486 rfl (lv_at hl 12 rfl) ?_
                      refine lv_aload_n hx hb dL_isSo_487 rfl (lv_at hl 13 rfl) ?_
                      refine lv_aload hx hb dL_isSo_488 (lv_at hl 14 rfl) ?_
                      refine lv_aload hx hb dL_isSo_490 (lv_at hl 15 rfl) ?_
                      refine k_rwS (As := [.ref (w 0), .int (nI (loN (iShr xx (nI 5)) 6)), .int (nI (loN (iShr xx (nI 8)) 20)), .ref aq, .ref at9, .ref ar, .ref ab]) (rest := []) (wc := ([(aq, .inl (T 0, 12, .inl fq)), (at9, .inl (T 0, 60, .inl ft)), (ar, .inl (T 0, 30, .inl fr)), (ab, .inl (T 0, 3, .inl fb))] ++ oC T (w, q, qz, h, qs, t, gr, u, tr, oc) (Sw, S, Z, Sh, Hs, X, Gg, U, gTr K S tl, pBrO O S (loN xx 20) 6))) (wr := []) (w1 := ([(aq, .inl (T 0, 12, .inl fq)), (at9, .inl (T 0, 60, .inl ft)), (ar, .inl (T 0, 30, .inl fr)), (ab, .inl (T 0, 3, .inl fb))] ++ oC T (w, q, qz, h, qs, t, gr, u, tr, oc) (Sw, S, Z, Sh, Hs, X, Gg, U, gTr K S tl, vIO (pBrO O S (loN xx 20) 6) S (loN (iShr xx (nI 5)) 6) (loN (iShr xx (nI 8)) 20) 4))) (d := 7) (mc := 0) (ms := 0) (v := nI 1) cx (c_L_isRoom l G T H.size aq fq at9 ft ar fr ab fb tn w q qz h qs t gr u tr oc Sw S Z Sh Hs X Gg U (gTr K S tl) (pBrO O S (loN xx 20) 6) (loN (iShr xx (nI 5)) 6) (loN (iShr xx (nI 8)) 20) (by first | assumption | rfl | omega) (by omega) (by omega) (by omega) (hR0 _ (by omega)) (hR1 _ (by omega)) (hR2 _ (by omega)) (hR3 _ (by omega)) (hR4 _ (by omega)) (hR5 _ (by omega)) (hRw _ _ (by omega) (by omega)) (hRi _ _ (by omega) (by omega))) (va_cwS 7 hts gL_isSo_L_isRoom rfl rfl rfl (by decide +kernel) ⟨Nat.le_of_ble_eq_true rfl, Nat.le_of_ble_eq_true rfl⟩) (kN_full hP hD hS hA hE hK) rfl hl.1 rfl (Nat.le_of_ble_eq_true rfl) dL_isSo_492 ⟨Nat.le_of_ble_eq_true rfl, Nat.le_of_ble_eq_true rfl⟩ (fun H locs hP hD hS hz => ?_)
                      have hP : va_P G vwCl ([(aq, .inl (T 0, 12, .inl fq)), (at9, .inl (T 0, 60, .inl ft)), (ar, .inl (T 0, 30, .inl fr)), (ab, .inl (T 0, 3, .inl fb))] ++ oC T (w, q, qz, h, qs, t, gr, u, tr, oc) (Sw, S, Z, Sh, Hs, X, Gg, U, gTr K S tl, vIO (pBrO O S (loN xx 20) 6) S (loN (iShr xx (nI 5)) 6) (loN (iShr xx (nI 8)) 20) 4)) H := hP
                      have hD : va_D A ([(aq, .inl (T 0, 12, .inl fq)), (at9, .inl (T 0, 60, .inl ft)), (ar, .inl (T 0, 30, .inl fr)), (ab, .inl (T 0, 3, .inl fb))] ++ oC T (w, q, qz, h, qs, t, gr, u, tr, oc) (Sw, S, Z, Sh, Hs, X, Gg, U, gTr K S tl, vIO (pBrO O S (loN xx 20) 6) S (loN (iShr xx (nI 5)) 6) (loN (iShr xx (nI 8)) 20) 4)) := hD
                      refine n_if_eq (a := 1) (tgt := 514) hx hb (by decide) dL_isSo_495 (by decide) (fun h9 => absurd h9 (by decide)) (fun c_42 => ?_)
                      refine lv_aload_n hx hb dL_isSo_498 rfl (lv_at hl 10 rfl) ?_
                      refine lv_iload_n hx hb dL_isSo_499 rfl (lv_at hl 11 rfl) ?_
                      refine lv_bipush (v := nI 6) hx hb dL_isSo_500 (by decide) ?_
                      refine x_ishr hx hb dL_isSo_502 ?_
                      refine lv_aload_n hx hb dL_isSo_503 rfl (lv_at hl 13 rfl) ?_
                      refine k_rwS (As := [.ref (w 0), .int (iShr xx (nI 6)), .ref at9]) (rest := []) (wc := ([(aq, .inl (T 0, 12, .inl fq)), (at9, .inl (T 0, 60, .inl ft)), (ar, .inl (T 0, 30, .inl fr)), (ab, .inl (T 0, 3, .inl fb))] ++ oC T (w, q, qz, h, qs, t, gr, u, tr, oc) (Sw, S, Z, Sh, Hs, X, Gg, U, gTr K S tl, vIO (pBrO O S (loN xx 20) 6) S (loN (iShr xx (nI 5)) 6) (loN (iShr xx (nI 8)) 20) 4))) (wr := []) (w1 := ([(aq, .inl (T 0, 12, .inl fq)), (at9, .inl (T 0, 60, .inl ft)), (ar, .inl (T 0, 30, .inl fr)), (ab, .inl (T 0, 3, .inl fb))] ++ oC T (w, q, qz, h, qs, t, gr, u, tr, oc) (Sw, S, Z, Sh, Hs, xCl (dcE (iShr xx (nI 6)) tn X).1, dGg Gg cd (dcE (iShr xx (nI 6)) tn X).2.1, dUu U cd (dcE (iShr xx (nI 6)) tn X).2.1, dKk (gTr K S tl) S U tl cd (dcE (iShr xx (nI 6)) tn X).2.1, vIO (pBrO O S (loN xx 20) 6) S (loN (iShr xx (nI 5)) 6) (loN (iShr xx (nI 8)) 20) 4))) (d := 16) (mc := 0) (ms := 0) (v := nI 1) cx (c_L_decodes l G T H.size aq fq at9 ft ar fr ab fb tn w q qz h qs t gr u tr oc Sw S Z Sh Hs X Gg U (gTr K S tl) (vIO (pBrO O S (loN xx 20) 6) S (loN (iShr xx (nI 5)) 6) (loN (iShr xx (nI 8)) 20) 4) nx tl cd (iShr xx (nI 6)) (by first | assumption | rfl | omega) (by omega) (by first | assumption | rfl | omega) (by omega) hlen hn60 hcd hc127 hbT hd0 hd1 hd2 hte) (va_cwS 3 hts gL_isSo_L_decodes rfl rfl rfl (by decide +kernel) ⟨Nat.le_of_ble_eq_true rfl, Nat.le_of_ble_eq_true rfl⟩) (kN_full hP hD hS hA hE hK) rfl hl.1 rfl (Nat.le_of_ble_eq_true rfl) dL_isSo_504 ⟨Nat.le_of_ble_eq_true rfl, Nat.le_of_ble_eq_true rfl⟩ (fun H locs hP hD hS hz => ?_)
                      have hP : va_P G vwCl ([(aq, .inl (T 0, 12, .inl fq)), (at9, .inl (T 0, 60, .inl ft)), (ar, .inl (T 0, 30, .inl fr)), (ab, .inl (T 0, 3, .inl fb))] ++ oC T (w, q, qz, h, qs, t, gr, u, tr, oc) (Sw, S, Z, Sh, Hs, xCl (dcE (iShr xx (nI 6)) tn X).1, dGg Gg cd (dcE (iShr xx (nI 6)) tn X).2.1, dUu U cd (dcE (iShr xx (nI 6)) tn X).2.1, dKk (gTr K S tl) S U tl cd (dcE (iShr xx (nI 6)) tn X).2.1, vIO (pBrO O S (loN xx 20) 6) S (loN (iShr xx (nI 5)) 6) (loN (iShr xx (nI 8)) 20) 4)) H := hP
                      have hD : va_D A ([(aq, .inl (T 0, 12, .inl fq)), (at9, .inl (T 0, 60, .inl ft)), (ar, .inl (T 0, 30, .inl fr)), (ab, .inl (T 0, 3, .inl fb))] ++ oC T (w, q, qz, h, qs, t, gr, u, tr, oc) (Sw, S, Z, Sh, Hs, xCl (dcE (iShr xx (nI 6)) tn X).1, dGg Gg cd (dcE (iShr xx (nI 6)) tn X).2.1, dUu U cd (dcE (iShr xx (nI 6)) tn X).2.1, dKk (gTr K S tl) S U tl cd (dcE (iShr xx (nI 6)) tn X).2.1, vIO (pBrO O S (loN xx 20) 6) S (loN (iShr xx (nI 5)) 6) (loN (iShr xx (nI 8)) 20) 4)) := hD
                      refine n_if_eq (a := 1) (tgt := 514) hx hb (by decide) dL_isSo_507 (by decide) (fun h9 => absurd h9 (by decide)) (fun c_43 => ?_)
                      refine n_iconst hx hb 1 dL_isSo_510 (by decide) ?_
                      refine lv_goto (tgt := 515) hx hb dL_isSo_511 (by decide) ?_
                      subst hQ
                      have hP9 : va_P G vwCl ([(aq, .inl (T 0, 12, .inl fq)), (at9, .inl (T 0, 60, .inl ft)), (ar, .inl (T 0, 30, .inl fr)), (ab, .inl (T 0, 3, .inl fb))] ++ oC T (w, q, qz, h, qs, t, gr, u, tr, oc) (Sw, S, Z, Sh, Hs, xCl (dcE (iShr xx (nI 6)) tn X).1, dGg Gg cd (dcE (iShr xx (nI 6)) tn X).2.1, dUu U cd (dcE (iShr xx (nI 6)) tn X).2.1, dKk (gTr K S tl) S U tl cd (dcE (iShr xx (nI 6)) tn X).2.1, vIO (pBrO O S (loN xx 20) 6) S (loN (iShr xx (nI 5)) 6) (loN (iShr xx (nI 8)) 20) 4)) H := hP
                      have hD9 : va_D A ([(aq, .inl (T 0, 12, .inl fq)), (at9, .inl (T 0, 60, .inl ft)), (ar, .inl (T 0, 30, .inl fr)), (ab, .inl (T 0, 3, .inl fb))] ++ oC T (w, q, qz, h, qs, t, gr, u, tr, oc) (Sw, S, Z, Sh, Hs, xCl (dcE (iShr xx (nI 6)) tn X).1, dGg Gg cd (dcE (iShr xx (nI 6)) tn X).2.1, dUu U cd (dcE (iShr xx (nI 6)) tn X).2.1, dKk (gTr K S tl) S U tl cd (dcE (iShr xx (nI 6)) tn X).2.1, vIO (pBrO O S (loN xx 20) 6) S (loN (iShr xx (nI 5)) 6) (loN (iShr xx (nI 8)) 20) 4)) := hD
                      exact e_rwz hx hb hr hlocks (by first | rfl | exact nar_b _) hS rfl hP9 hD9 dL_isSo_515
                    · skip
                      refine lv_dconst1 hx hb dL_isSo_419 ?_
                      refine lv_goto (tgt := 433) hx hb dL_isSo_420 (by decide) ?_
                      refine lv_dcmp hx hb dL_isSo_433 ?_
                      refine lv_if_ne (tgt := 441) hx hb dL_isSo_434 (by decide) (fun c_44 => by exfalso; first | (rw [hs1 (by assumption), d1_self] at c_44; exact absurd c_44 (by decide)) | (rw [hs2 (by assumption), n64_self (ddiv_n64 _ _ (by assumption))] at c_44; exact absurd c_44 (by decide))) (fun c_45 => ?_)
                      refine n_iconst hx hb 1 dL_isSo_437 (by decide) ?_
                      refine lv_goto (tgt := 442) hx hb dL_isSo_438 (by decide) ?_
                      refine lv_istore (lv' := [(14, .int (nI 1)), (15, .int (nI 6)), (13, .int (sGg fq fr 6)), (12, .int (sRr fr 4 6)), (11, .int (sRr fr 3 6)), (10, .int (sRr fr 1 6)), (9, .int (nI (sSs fq fr 6))), (8, .int (sRr fr 2 6)), (7, .int (nI (sM tn 20))), (6, .int (nI (sT tn 20))), (0, .ref (w 0)), (1, .int xx), (2, .ref aq), (3, .ref at9), (4, .ref ar), (5, .ref ab)]) hx hb dL_isSo_442 hl (by decide) rfl (fun ls hl => ?_)
                      refine lv_iload hx hb dL_isSo_444 (lv_at hl 0 rfl) ?_
                      refine n_if_eq (a := 1) (tgt := 514) hx hb (by decide) dL_isSo_446 (by decide) (fun h9 => absurd h9 (by decide)) (fun c_46 => ?_)
                      refine lv_aload_n hx hb dL_isSo_449 rfl (lv_at hl 10 rfl) ?_
                      refine lv_iload_n hx hb dL_isSo_450 rfl (lv_at hl 11 rfl) ?_
                      refine lv_bipush (v := nI 20) hx hb dL_isSo_451 (by decide) ?_
                      refine k_roS (As := [.int xx, .int (nI 20)]) (rest := [.ref (w 0)]) (wc := []) (d := 0) (v := nI (loN xx 20)) cx (c_L_low l G T A xx 20 (by omega) (by omega)) (va_cwS 2 hts gL_isSo_L_low rfl rfl rfl (by decide +kernel) ⟨Nat.le_of_ble_eq_true rfl, Nat.le_of_ble_eq_true rfl⟩) (hP.sub (ws' := []) [] rfl) hK (hE.kept hS.2.1) rfl hl.1 rfl (Nat.le_of_ble_eq_true rfl) dL_isSo_453 ⟨Nat.le_of_ble_eq_true rfl, Nat.le_of_ble_eq_true rfl⟩ ?_
                      refine lv_aload_n hx hb dL_isSo_456 rfl (lv_at hl 12 rfl) ?_
                      refine lv_aload_n hx hb dL_isSo_457 rfl (lv_at hl 13 rfl) ?_
                      refine lv_aload hx hb dL_isSo_458 (lv_at hl 14 rfl) ?_
                      refine lv_aload hx hb dL_isSo_460 (lv_at hl 15 rfl) ?_
                      refine k_rwS (As := [.ref (w 0), .int (nI (loN xx 20)), .ref aq, .ref at9, .ref ar, .ref ab]) (rest := []) (wc := ([(aq, .inl (T 0, 12, .inl fq)), (at9, .inl (T 0, 60, .inl ft)), (ar, .inl (T 0, 30, .inl fr)), (ab, .inl (T 0, 3, .inl fb))] ++ oC T (w, q, qz, h, qs, t, gr, u, tr, oc) (Sw, S, Z, Sh, Hs, X, Gg, U, gTr K S tl, O))) (wr := []) (w1 := ([(aq, .inl (T 0, 12, .inl fq)), (at9, .inl (T 0, 60, .inl ft)), (ar, .inl (T 0, 30, .inl fr)), (ab, .inl (T 0, 3, .inl fb))] ++ oC T (w, q, qz, h, qs, t, gr, u, tr, oc) (Sw, S, Z, Sh, Hs, X, Gg, U, gTr K S tl, pBrO O S (loN xx 20) 6))) (d := 7) (mc := 0) (ms := 0) (v := nI 1) cx (c_L_isMessage l G T H.size aq fq at9 ft ar fr ab fb tn w q qz h qs t gr u tr oc Sw S Z Sh Hs X Gg U (gTr K S tl) O (loN xx 20) (by first | assumption | rfl | omega) (by omega) (by omega) (hM0 _ (by omega)) (hM1 _ (by omega)) (hM2 _ (by omega)) (hM3 _ (by omega)) (hMb _ (by omega)) (hMn _ (by omega)) (hMz _ (by omega))) (va_cwS 6 hts gL_isSo_L_isMessage rfl rfl rfl (by decide +kernel) ⟨Nat.le_of_ble_eq_true rfl, Nat.le_of_ble_eq_true rfl⟩) (kN_full hP hD hS hA hE hK) rfl hl.1 rfl (Nat.le_of_ble_eq_true rfl) dL_isSo_462 ⟨Nat.le_of_ble_eq_true rfl, Nat.le_of_ble_eq_true rfl⟩ (fun H locs hP hD hS hz => ?_)
                      have hP : va_P G vwCl ([(aq, .inl (T 0, 12, .inl fq)), (at9, .inl (T 0, 60, .inl ft)), (ar, .inl (T 0, 30, .inl fr)), (ab, .inl (T 0, 3, .inl fb))] ++ oC T (w, q, qz, h, qs, t, gr, u, tr, oc) (Sw, S, Z, Sh, Hs, X, Gg, U, gTr K S tl, pBrO O S (loN xx 20) 6)) H := hP
                      have hD : va_D A ([(aq, .inl (T 0, 12, .inl fq)), (at9, .inl (T 0, 60, .inl ft)), (ar, .inl (T 0, 30, .inl fr)), (ab, .inl (T 0, 3, .inl fb))] ++ oC T (w, q, qz, h, qs, t, gr, u, tr, oc) (Sw, S, Z, Sh, Hs, X, Gg, U, gTr K S tl, pBrO O S (loN xx 20) 6)) := hD
                      refine n_if_eq (a := 1) (tgt := 514) hx hb (by decide) dL_isSo_465 (by decide) (fun h9 => absurd h9 (by decide)) (fun c_47 => ?_)
                      refine lv_aload_n hx hb dL_isSo_468 rfl (lv_at hl 10 rfl) ?_
                      refine lv_iload_n hx hb dL_isSo_469 rfl (lv_at hl 11 rfl) ?_
                      refine n_iconst hx hb 5 dL_isSo_470 (by decide) ?_
                      refine x_ishr hx hb dL_isSo_471 ?_
                      refine lv_bipush (v := nI 6) hx hb dL_isSo_472 (by decide) ?_
                      refine k_roS (As := [.int (iShr xx (nI 5)), .int (nI 6)]) (rest := [.ref (w 0)]) (wc := []) (d := 0) (v := nI (loN (iShr xx (nI 5)) 6)) cx (c_L_low l G T A (iShr xx (nI 5)) 6 (by omega) (by omega)) (va_cwS 2 hts gL_isSo_L_low rfl rfl rfl (by decide +kernel) ⟨Nat.le_of_ble_eq_true rfl, Nat.le_of_ble_eq_true rfl⟩) (hP.sub (ws' := []) [] rfl) hK (hE.kept hS.2.1) rfl hl.1 rfl (Nat.le_of_ble_eq_true rfl) dL_isSo_474 ⟨Nat.le_of_ble_eq_true rfl, Nat.le_of_ble_eq_true rfl⟩ ?_
                      refine lv_iload_n hx hb dL_isSo_477 rfl (lv_at hl 11 rfl) ?_
                      refine lv_bipush (v := nI 8) hx hb dL_isSo_478 (by decide) ?_
                      refine x_ishr hx hb dL_isSo_480 ?_
                      refine lv_bipush (v := nI 20) hx hb dL_isSo_481 (by decide) ?_
                      refine k_roS (As := [.int (iShr xx (nI 8)), .int (nI 20)]) (rest := [.int (nI (loN (iShr xx (nI 5)) 6)), .ref (w 0)]) (wc := []) (d := 0) (v := nI (loN (iShr xx (nI 8)) 20)) cx (c_L_low l G T A (iShr xx (nI 8)) 20 (by omega) (by omega)) (va_cwS 2 hts gL_isSo_L_low rfl rfl rfl (by decide +kernel) ⟨Nat.le_of_ble_eq_true rfl, Nat.le_of_ble_eq_true rfl⟩) (hP.sub (ws' := []) [] rfl) hK (hE.kept hS.2.1) rfl hl.1 rfl (Nat.le_of_ble_eq_true rfl) dL_isSo_483 ⟨Nat.le_of_ble_eq_true rfl, Nat.le_of_ble_eq_true rfl⟩ ?_
                      refine lv_aload_n hx hb dL_isSo_486 rfl (lv_at hl 12 rfl) ?_
                      refine lv_aload_n hx hb dL_isSo_487 rfl (lv_at hl 13 rfl) ?_
                      refine lv_aload hx hb dL_isSo_488 (lv_at hl 14 rfl) ?_
                      refine lv_aload hx hb dL_isSo_490 (lv_at hl 15 rfl) ?_
                      refine k_rwS (As := [.ref (w 0), .int (nI (loN (iShr xx (nI 5)) 6)), .int (nI (loN (iShr xx (nI 8)) 20)), .ref aq, .ref at9, .ref ar, .ref ab]) (rest := []) (wc := ([(aq, .inl (T 0, 12, .inl fq)), (at9, .inl (T 0, 60, .inl ft)), (ar, .inl (T 0, 30, .inl fr)), (ab, .inl (T 0, 3, .inl fb))] ++ oC T (w, q, qz, h, qs, t, gr, u, tr, oc) (Sw, S, Z, Sh, Hs, X, Gg, U, gTr K S tl, pBrO O S (loN xx 20) 6))) (wr := []) (w1 := ([(aq, .inl (T 0, 12, .inl fq)), (at9, .inl (T 0, 60, .inl ft)), (ar, .inl (T 0, 30, .inl fr)), (ab, .inl (T 0, 3, .inl fb))] ++ oC T (w, q, qz, h, qs, t, gr, u, tr, oc) (Sw, S, Z, Sh, Hs, X, Gg, U, gTr K S tl, vIO (pBrO O S (loN xx 20) 6) S (loN (iShr xx (nI 5)) 6) (loN (iShr xx (nI 8)) 20) 4))) (d := 7) (mc := 0) (ms := 0) (v := nI 1) cx (c_L_isRoom l G T H.size aq fq at9 ft ar fr ab fb tn w q qz h qs t gr u tr oc Sw S Z Sh Hs X Gg U (gTr K S tl) (pBrO O S (loN xx 20) 6) (loN (iShr xx (nI 5)) 6) (loN (iShr xx (nI 8)) 20) (by first | assumption | rfl | omega) (by omega) (by omega) (by omega) (hR0 _ (by omega)) (hR1 _ (by omega)) (hR2 _ (by omega)) (hR3 _ (by omega)) (hR4 _ (by omega)) (hR5 _ (by omega)) (hRw _ _ (by omega) (by omega)) (hRi _ _ (by omega) (by omega))) (va_cwS 7 hts gL_isSo_L_isRoom rfl rfl rfl (by decide +kernel) ⟨Nat.le_of_ble_eq_true rfl, Nat.le_of_ble_eq_true rfl⟩) (kN_full hP hD hS hA hE hK) rfl hl.1 rfl (Nat.le_of_ble_eq_true rfl) dL_isSo_492 ⟨Nat.le_of_ble_eq_true rfl, Nat.le_of_ble_eq_true rfl⟩ (fun H locs hP hD hS hz => ?_)
                      have hP : va_P G vwCl ([(aq, .inl (T 0, 12, .inl fq)), (at9, .inl (T 0, 60, .inl ft)), (ar, .inl (T 0, 30, .inl fr)), (ab, .inl (T 0, 3, .inl fb))] ++ oC T (w, q, qz, h, qs, t, gr, u, tr, oc) (Sw, S, Z, Sh, Hs, X, Gg, U, gTr K S tl, vIO (pBrO O S (loN xx 20) 6) S (loN (iShr xx (nI 5)) 6) (loN (iShr xx (nI 8)) 20) 4)) H := hP
                      have hD : va_D A ([(aq, .inl (T 0, 12, .inl fq)), (at9, .inl (T 0, 60, .inl ft)), (ar, .inl (T 0, 30, .inl fr)), (ab, .inl (T 0, 3, .inl fb))] ++ oC T (w, q, qz, h, qs, t, gr, u, tr, oc) (Sw, S, Z, Sh, Hs, X, Gg, U, gTr K S tl, vIO (pBrO O S (loN xx 20) 6) S (loN (iShr xx (nI 5)) 6) (loN (iShr xx (nI 8)) 20) 4)) := hD
                      refine n_if_eq (a := 1) (tgt := 514) hx hb (by decide) dL_isSo_495 (by decide) (fun h9 => absurd h9 (by decide)) (fun c_48 => ?_)
                      refine lv_aload_n hx hb dL_isSo_498 rfl (lv_at hl 10 rfl) ?_
                      refine lv_iload_n hx hb dL_isSo_499 rfl (lv_at hl 11 rfl) ?_
                      refine lv_bipush (v := nI 6) hx hb dL_isSo_500 (by decide) ?_
                      refine x_ishr hx hb dL_isSo_502 ?_
                      refine lv_aload_n hx hb dL_isSo_503 rfl (lv_at hl 13 rfl) ?_
                      refine k_rwS (As := [.ref (w 0), .int (iShr xx (nI 6)), .ref at9]) (rest := []) (wc := ([(aq, .inl (T 0, 12, .inl fq)), (at9, .inl (T 0, 60, .inl ft)), (ar, .inl (T 0, 30, .inl fr)), (ab, .inl (T 0, 3, .inl fb))] ++ oC T (w, q, qz, h, qs, t, gr, u, tr, oc) (Sw, S, Z, Sh, Hs, X, Gg, U, gTr K S tl, vIO (pBrO O S (loN xx 20) 6) S (loN (iShr xx (nI 5)) 6) (loN (iShr xx (nI 8)) 20) 4))) (wr := []) (w1 := ([(aq, .inl (T 0, 12, .inl fq)), (at9, .inl (T 0, 60, .inl ft)), (ar, .inl (T 0, 30, .inl fr)), (ab, .inl (T 0, 3, .inl fb))] ++ oC T (w, q, qz, h, qs, t, gr, u, tr, oc) (Sw, S, Z, Sh, Hs, xCl (dcE (iShr xx (nI 6)) tn X).1, dGg Gg cd (dcE (iShr xx (nI 6)) tn X).2.1, dUu U cd (dcE (iShr xx (nI 6)) tn X).2.1, dKk (gTr K S tl) S U tl cd (dcE (iShr xx (nI 6)) tn X).2.1, vIO (pBrO O S (loN xx 20) 6) S (loN (iShr xx (nI 5)) 6) (loN (iShr xx (nI 8)) 20) 4))) (d := 16) (mc := 0) (ms := 0) (v := nI 1) cx (c_L_decodes l G T H.size aq fq at9 ft ar fr ab fb tn w q qz h qs t gr u tr oc Sw S Z Sh Hs X Gg U (gTr K S tl) (vIO (pBrO O S (loN xx 20) 6) S (loN (iShr xx (nI 5)) 6) (loN (iShr xx (nI 8)) 20) 4) nx tl cd (iShr xx (nI 6)) (by first | assumption | rfl | omega) (by omega) (by first | assumption | rfl | omega) (by omega) hlen hn60 hcd hc127 hbT hd0 hd1 hd2 hte) (va_cwS 3 hts gL_isSo_L_decodes rfl rfl rfl (by decide +kernel) ⟨Nat.le_of_ble_eq_true rfl, Nat.le_of_ble_eq_true rfl⟩) (kN_full hP hD hS hA hE hK) rfl hl.1 rfl (Nat.le_of_ble_eq_true rfl) dL_isSo_504 ⟨Nat.le_of_ble_eq_true rfl, Nat.le_of_ble_eq_true rfl⟩ (fun H locs hP hD hS hz => ?_)
                      have hP : va_P G vwCl ([(aq, .inl (T 0, 12, .inl fq)), (at9, .inl (T 0, 60, .inl ft)), (ar, .inl (T 0, 30, .inl fr)), (ab, .inl (T 0, 3, .inl fb))] ++ oC T (w, q, qz, h, qs, t, gr, u, tr, oc) (Sw, S, Z, Sh, Hs, xCl (dcE (iShr xx (nI 6)) tn X).1, dGg Gg cd (dcE (iShr xx (nI 6)) tn X).2.1, dUu U cd (dcE (iShr xx (nI 6)) tn X).2.1, dKk (gTr K S tl) S U tl cd (dcE (iShr xx (nI 6)) tn X).2.1, vIO (pBrO O S (loN xx 20) 6) S (loN (iShr xx (nI 5)) 6) (loN (iShr xx (nI 8)) 20) 4)) H := hP
                      have hD : va_D A ([(aq, .inl (T 0, 12, .inl fq)), (at9, .inl (T 0, 60, .inl ft)), (ar, .inl (T 0, 30, .inl fr)), (ab, .inl (T 0, 3, .inl fb))] ++ oC T (w, q, qz, h, qs, t, gr, u, tr, oc) (Sw, S, Z, Sh, Hs, xCl (dcE (iShr xx (nI 6)) tn X).1, dGg Gg cd (dcE (iShr xx (nI 6)) tn X).2.1, dUu U cd (dcE (iShr xx (nI 6)) tn X).2.1, dKk (gTr K S tl) S U tl cd (dcE (iShr xx (nI 6)) tn X).2.1, vIO (pBrO O S (loN xx 20) 6) S (loN (iShr xx (nI 5)) 6) (loN (iShr xx (nI 8)) 20) 4)) := hD
                      refine n_if_eq (a := 1) (tgt := 514) hx hb (by decide) dL_isSo_507 (by decide) (fun h9 => absurd h9 (by decide)) (fun c_49 => ?_)
                      refine n_iconst hx hb 1 dL_isSo_510 (by decide) ?_
                      refine lv_goto (tgt := 515) hx hb dL_isSo_511 (by decide) ?_
                      subst hQ
                      have hP9 : va_P G vwCl ([(aq, .inl (T 0, 12, .inl fq)), (at9, .inl (T 0, 60, .inl ft)), (ar, .inl (T 0, 30, .inl fr)), (ab, .inl (T 0, 3, .inl fb))] ++ oC T (w, q, qz, h, qs, t, gr, u, tr, oc) (Sw, S, Z, Sh, Hs, xCl (dcE (iShr xx (nI 6)) tn X).1, dGg Gg cd (dcE (iShr xx (nI 6)) tn X).2.1, dUu U cd (dcE (iShr xx (nI 6)) tn X).2.1, dKk (gTr K S tl) S U tl cd (dcE (iShr xx (nI 6)) tn X).2.1, vIO (pBrO O S (loN xx 20) 6) S (loN (iShr xx (nI 5)) 6) (loN (iShr xx (nI 8)) 20) 4)) H := hP
                      have hD9 : va_D A ([(aq, .inl (T 0, 12, .inl fq)), (at9, .inl (T 0, 60, .inl ft)), (ar, .inl (T 0, 30, .inl fr)), (ab, .inl (T 0, 3, .inl fb))] ++ oC T (w, q, qz, h, qs, t, gr, u, tr, oc) (Sw, S, Z, Sh, Hs, xCl (dcE (iShr xx (nI 6)) tn X).1, dGg Gg cd (dcE (iShr xx (nI 6)) tn X).2.1, dUu U cd (dcE (iShr xx (nI 6)) tn X).2.1, dKk (gTr K S tl) S U tl cd (dcE (iShr xx (nI 6)) tn X).2.1, vIO (pBrO O S (loN xx 20) 6) S (loN (iShr xx (nI 5)) 6) (loN (iShr xx (nI 8)) 20) 4)) := hD
                      exact e_rwz hx hb hr hlocks (by first | rfl | exact nar_b _) hS rfl hP9 hD9 dL_isSo_515
                  · skip
                    refine lv_iload hx hb dL_isSo_368 (lv_at hl 1 rfl) ?_
                    refine n_if_eq (a := 1) (tgt := 393) hx hb (by decide) dL_isSo_370 (by decide) (fun h9 => absurd h9 (by decide)) (fun c_50 => ?_)
                    refine lv_aload_n hx hb dL_isSo_373 rfl (lv_at hl 10 rfl) ?_
                    refine lv_iload hx hb dL_isSo_374 (lv_at hl 0 rfl) ?_
                    refine k_lwS (As := [.ref (w 0), .int (nI k)]) (rest := []) (wc := ([(aq, .inl (T 0, 12, .inl fq)), (at9, .inl (T 0, 60, .inl ft)), (ar, .inl (T 0, 30, .inl fr)), (ab, .inl (T 0, 3, .inl fb))] ++ oC T (w, q, qz, h, qs, t, gr, u, tr, oc) (Sw, S, Z, Sh, Hs, X, Gg, U, gTr K S tl, O))) (wr := []) (w1 := ([(aq, .inl (T 0, 12, .inl fq)), (at9, .inl (T 0, 60, .inl ft)), (ar, .inl (T 0, 30, .inl fr)), (ab, .inl (T 0, 3, .inl fb))] ++ oC T (w, q, qz, h, qs, t, gr, u, tr, oc) (Sw, S, Z, Sh, Hs, X, Gg, U, gTr K S tl, O))) (d := 1) (mc := 0) (ms := 0) (v := (S 15) k) cx (RWi.fr (c_L_latest l G T H.size w q qz h qs t gr u tr oc Sw S Z Sh Hs X Gg U (gTr K S tl) O k (by omega)) (Fr.head [(aq, .inl (T 0, 12, .inl fq)), (at9, .inl (T 0, 60, .inl ft)), (ar, .inl (T 0, 30, .inl fr)), (ab, .inl (T 0, 3, .inl fb))] (oC T (w, q, qz, h, qs, t, gr, u, tr, oc) (Sw, S, Z, Sh, Hs, X, Gg, U, gTr K S tl, O)) (oC T (w, q, qz, h, qs, t, gr, u, tr, oc) (Sw, S, Z, Sh, Hs, X, Gg, U, gTr K S tl, O)))) (vx_cwSW 2 hts gL_isSo_L_latest rfl rfl rfl (by decide +kernel) ⟨Nat.le_of_ble_eq_true rfl, Nat.le_of_ble_eq_true rfl⟩) (kN_full hP hD hS hA hE hK) rfl hl.1 rfl (Nat.le_of_ble_eq_true rfl) dL_isSo_376 ⟨Nat.le_of_ble_eq_true rfl, Nat.le_of_ble_eq_true rfl⟩ (fun H locs hP hD hS hz => ?_)
                    have hP : va_P G vwCl ([(aq, .inl (T 0, 12, .inl fq)), (at9, .inl (T 0, 60, .inl ft)), (ar, .inl (T 0, 30, .inl fr)), (ab, .inl (T 0, 3, .inl fb))] ++ oC T (w, q, qz, h, qs, t, gr, u, tr, oc) (Sw, S, Z, Sh, Hs, X, Gg, U, gTr K S tl, O)) H := hP
                    have hD : va_D A ([(aq, .inl (T 0, 12, .inl fq)), (at9, .inl (T 0, 60, .inl ft)), (ar, .inl (T 0, 30, .inl fr)), (ab, .inl (T 0, 3, .inl fb))] ++ oC T (w, q, qz, h, qs, t, gr, u, tr, oc) (Sw, S, Z, Sh, Hs, X, Gg, U, gTr K S tl, O)) := hD
                    refine lv_aload_n hx hb dL_isSo_379 rfl (lv_at hl 12 rfl) ?_
                    refine lv_bipush (v := nI 6) hx hb dL_isSo_380 (by decide) ?_
                    refine lv_iload hx hb dL_isSo_382 (lv_at hl 0 rfl) ?_
                    refine n_iadd (a := 6) (b := k) hx hb dL_isSo_384 ?_
                    refine n_iald hx hb hK hP 0 0 rfl rfl (6 + k) (by omega) (by decide) dL_isSo_385 ?_
                    refine lv_icmp_ne (tgt := 393) hx hb dL_isSo_386 (by decide) (fun c_51 => by exfalso; exact c_51 (hla k (by omega))) (fun c_52 => ?_)
                    refine n_iconst hx hb 1 dL_isSo_389 (by decide) ?_
                    refine lv_goto (tgt := 394) hx hb dL_isSo_390 (by decide) ?_
                    refine lv_istore (lv' := [(14, .int (nI 1)), (15, .int (nI k)), (13, .int (sGg fq fr 6)), (12, .int (sRr fr 4 6)), (11, .int (sRr fr 3 6)), (10, .int (sRr fr 1 6)), (9, .int (nI (sSs fq fr 6))), (8, .int (sRr fr 2 6)), (7, .int (nI (sM tn 20))), (6, .int (nI (sT tn 20))), (0, .ref (w 0)), (1, .int xx), (2, .ref aq), (3, .ref at9), (4, .ref ar), (5, .ref ab)]) hx hb dL_isSo_394 hl (by decide) rfl (fun ls hl => ?_)
                    refine lv_iinc (v := nI (k + 1)) (lv' := [(15, .int (nI (k + 1))), (14, .int (nI 1)), (13, .int (sGg fq fr 6)), (12, .int (sRr fr 4 6)), (11, .int (sRr fr 3 6)), (10, .int (sRr fr 1 6)), (9, .int (nI (sSs fq fr 6))), (8, .int (sRr fr 2 6)), (7, .int (nI (sM tn 20))), (6, .int (nI (sT tn 20))), (0, .ref (w 0)), (1, .int xx), (2, .ref aq), (3, .ref at9), (4, .ref ar), (5, .ref ab)]) hx hb dL_isSo_396 hl (k := 1) rfl (n_inc k 1 rfl) (by decide) rfl (fun ls hl => ?_)
                    refine lv_goto (tgt := 361) hx hb dL_isSo_399 (by decide) ?_
                    exact ih361 (k + 1) (by omega) (by omega) _ rfl _ _ hP hD hS _ (lv_sub hl [0, 1, 2, 3, 4, 5, 6, 7, 8, 9, 10, 11, 12, 13, 14, 15] rfl)
              exact L361_i_32 (6 + 1) 0 (by omega) (by omega) _ rfl _ _ hP hD hS _ (lv_sub hl [0, 1, 2, 3, 4, 5, 6, 7, 8, 9, 10, 11, 12, 13, 14, 15] rfl)
            · skip
              refine lv_iload hx hb dL_isSo_93 (lv_at hl 6 rfl) ?_
              refine lv_aload hx hb dL_isSo_95 (lv_at hl 13 rfl) ?_
              refine n_iconst hx hb 5 dL_isSo_97 (by decide) ?_
              refine lv_iload hx hb dL_isSo_98 (lv_at hl 0 rfl) ?_
              refine n_imul (a := 5) (b := k) hx hb dL_isSo_100 ?_
              refine n_iconst hx hb 2 dL_isSo_101 (by decide) ?_
              refine n_iadd (a := 5 * k) (b := 2) hx hb dL_isSo_102 ?_
              refine n_iald hx hb hK hP 2 0 rfl rfl (5 * k + 2) (by omega) (by decide) dL_isSo_103 ?_
              refine lv_iadd hx hb dL_isSo_104 ?_
              refine lv_istore (lv' := [(8, .int ((sRr fr 2 k) + (fr (5 * k + 2)))), (14, .int (nI k)), (13, .int (sGg fq fr k)), (12, .int (sRr fr 4 k)), (11, .int (sRr fr 3 k)), (10, .int (sRr fr 1 k)), (9, .int (nI (sSs fq fr k))), (7, .int (nI (sM tn 20))), (6, .int (nI (sT tn 20))), (0, .ref (w 0)), (1, .int xx), (2, .ref aq), (3, .ref at9), (4, .ref ar), (5, .ref ab)]) hx hb dL_isSo_105 hl (by decide) rfl (fun ls hl => ?_)
              refine lv_iload hx hb dL_isSo_107 (lv_at hl 6 rfl) ?_
              refine lv_aload hx hb dL_isSo_109 (lv_at hl 13 rfl) ?_
              refine n_iconst hx hb 5 dL_isSo_111 (by decide) ?_
              refine lv_iload hx hb dL_isSo_112 (lv_at hl 1 rfl) ?_
              refine n_imul (a := 5) (b := k) hx hb dL_isSo_114 ?_
              refine n_iconst hx hb 1 dL_isSo_115 (by decide) ?_
              refine n_iadd (a := 5 * k) (b := 1) hx hb dL_isSo_116 ?_
              refine n_iald hx hb hK hP 2 0 rfl rfl (5 * k + 1) (by omega) (by decide) dL_isSo_117 ?_
              refine lv_aload_n hx hb dL_isSo_118 rfl (lv_at hl 11 rfl) ?_
              refine n_iconst hx hb 4 dL_isSo_119 (by decide) ?_
              refine n_iald hx hb hK hP 0 0 rfl rfl 4 (by decide) (by decide) dL_isSo_120 ?_
              have J_53 : ∀ y9 : Int32, y9 = (nI (if fr (5 * k + 1) < fq 4 then 0 else 1)) → W p l e (headSpec wsL_isSo (rmD 17 0 0)).room s m args below meth c H locs 0 0 Q0 (F0 m 129 ls (.int y9 :: .int (nI (sSs fq fr k)) :: [])) := by
                intro y9 hy9
                subst hy9
                refine n_iadd (a := sSs fq fr k) (b := if fr (5 * k + 1) < fq 4 then 0 else 1) hx hb dL_isSo_129 ?_
                refine lv_istore (lv' := [(9, .int (nI (sSs fq fr k + (if fr (5 * k + 1) < fq 4 then 0 else 1)))), (8, .int ((sRr fr 2 k) + (fr (5 * k + 2)))), (14, .int (nI k)), (13, .int (sGg fq fr k)), (12, .int (sRr fr 4 k)), (11, .int (sRr fr 3 k)), (10, .int (sRr fr 1 k)), (7, .int (nI (sM tn 20))), (6, .int (nI (sT tn 20))), (0, .ref (w 0)), (1, .int xx), (2, .ref aq), (3, .ref at9), (4, .ref ar), (5, .ref ab)]) hx hb dL_isSo_130 hl (by decide) rfl (fun ls hl => ?_)
                refine lv_iload hx hb dL_isSo_132 (lv_at hl 6 rfl) ?_
                refine lv_aload hx hb dL_isSo_134 (lv_at hl 13 rfl) ?_
                refine n_iconst hx hb 5 dL_isSo_136 (by decide) ?_
                refine lv_iload hx hb dL_isSo_137 (lv_at hl 2 rfl) ?_
                refine n_imul (a := 5) (b := k) hx hb dL_isSo_139 ?_
                refine n_iconst hx hb 1 dL_isSo_140 (by decide) ?_
                refine n_iadd (a := 5 * k) (b := 1) hx hb dL_isSo_141 ?_
                refine n_iald hx hb hK hP 2 0 rfl rfl (5 * k + 1) (by omega) (by decide) dL_isSo_142 ?_
                refine lv_iadd hx hb dL_isSo_143 ?_
                refine lv_istore (lv' := [(10, .int ((sRr fr 1 k) + (fr (5 * k + 1)))), (9, .int (nI (sSs fq fr k + (if fr (5 * k + 1) < fq 4 then 0 else 1)))), (8, .int ((sRr fr 2 k) + (fr (5 * k + 2)))), (14, .int (nI k)), (13, .int (sGg fq fr k)), (12, .int (sRr fr 4 k)), (11, .int (sRr fr 3 k)), (7, .int (nI (sM tn 20))), (6, .int (nI (sT tn 20))), (0, .ref (w 0)), (1, .int xx), (2, .ref aq), (3, .ref at9), (4, .ref ar), (5, .ref ab)]) hx hb dL_isSo_144 hl (by decide) rfl (fun ls hl => ?_)
                refine lv_iload hx hb dL_isSo_146 (lv_at hl 6 rfl) ?_
                refine lv_aload hx hb dL_isSo_148 (lv_at hl 13 rfl) ?_
                refine n_iconst hx hb 5 dL_isSo_150 (by decide) ?_
                refine lv_iload hx hb dL_isSo_151 (lv_at hl 3 rfl) ?_
                refine n_imul (a := 5) (b := k) hx hb dL_isSo_153 ?_
                refine n_iconst hx hb 3 dL_isSo_154 (by decide) ?_
                refine n_iadd (a := 5 * k) (b := 3) hx hb dL_isSo_155 ?_
                refine n_iald hx hb hK hP 2 0 rfl rfl (5 * k + 3) (by omega) (by decide) dL_isSo_156 ?_
                refine lv_iadd hx hb dL_isSo_157 ?_
                refine lv_istore (lv' := [(11, .int ((sRr fr 3 k) + (fr (5 * k + 3)))), (10, .int ((sRr fr 1 k) + (fr (5 * k + 1)))), (9, .int (nI (sSs fq fr k + (if fr (5 * k + 1) < fq 4 then 0 else 1)))), (8, .int ((sRr fr 2 k) + (fr (5 * k + 2)))), (14, .int (nI k)), (13, .int (sGg fq fr k)), (12, .int (sRr fr 4 k)), (7, .int (nI (sM tn 20))), (6, .int (nI (sT tn 20))), (0, .ref (w 0)), (1, .int xx), (2, .ref aq), (3, .ref at9), (4, .ref ar), (5, .ref ab)]) hx hb dL_isSo_158 hl (by decide) rfl (fun ls hl => ?_)
                refine lv_iload hx hb dL_isSo_160 (lv_at hl 6 rfl) ?_
                refine lv_aload hx hb dL_isSo_162 (lv_at hl 13 rfl) ?_
                refine n_iconst hx hb 5 dL_isSo_164 (by decide) ?_
                refine lv_iload hx hb dL_isSo_165 (lv_at hl 4 rfl) ?_
                refine n_imul (a := 5) (b := k) hx hb dL_isSo_167 ?_
                refine n_iconst hx hb 4 dL_isSo_168 (by decide) ?_
                refine n_iadd (a := 5 * k) (b := 4) hx hb dL_isSo_169 ?_
                refine n_iald hx hb hK hP 2 0 rfl rfl (5 * k + 4) (by omega) (by decide) dL_isSo_170 ?_
                refine lv_iadd hx hb dL_isSo_171 ?_
                refine lv_istore (lv' := [(12, .int ((sRr fr 4 k) + (fr (5 * k + 4)))), (11, .int ((sRr fr 3 k) + (fr (5 * k + 3)))), (10, .int ((sRr fr 1 k) + (fr (5 * k + 1)))), (9, .int (nI (sSs fq fr k + (if fr (5 * k + 1) < fq 4 then 0 else 1)))), (8, .int ((sRr fr 2 k) + (fr (5 * k + 2)))), (14, .int (nI k)), (13, .int (sGg fq fr k)), (7, .int (nI (sM tn 20))), (6, .int (nI (sT tn 20))), (0, .ref (w 0)), (1, .int xx), (2, .ref aq), (3, .ref at9), (4, .ref ar), (5, .ref ab)]) hx hb dL_isSo_172 hl (by decide) rfl (fun ls hl => ?_)
                refine lv_iload hx hb dL_isSo_174 (lv_at hl 6 rfl) ?_
                refine lv_aload hx hb dL_isSo_176 (lv_at hl 13 rfl) ?_
                refine n_iconst hx hb 5 dL_isSo_178 (by decide) ?_
                refine lv_iload hx hb dL_isSo_179 (lv_at hl 5 rfl) ?_
                refine n_imul (a := 5) (b := k) hx hb dL_isSo_181 ?_
                refine n_iald hx hb hK hP 2 0 rfl rfl (5 * k) (by omega) (by decide) dL_isSo_182 ?_
                refine lv_aload_n hx hb dL_isSo_183 rfl (lv_at hl 11 rfl) ?_
                refine n_iconst hx hb 1 dL_isSo_184 (by decide) ?_
                refine n_iald hx hb hK hP 0 0 rfl rfl 1 (by decide) (by decide) dL_isSo_185 ?_
                have J_54 : ∀ y9 : Int32, y9 = (if fr (5 * k) = fq 1 then iShl (nI 1) (nI k) else nI 0) → W p l e (headSpec wsL_isSo (rmD 17 0 0)).room s m args below meth c H locs 0 0 Q0 (F0 m 197 ls (.int y9 :: .int (sGg fq fr k) :: [])) := by
                  intro y9 hy9
                  subst hy9
                  refine lv_ior hx hb dL_isSo_197 ?_
                  refine lv_istore (lv' := [(13, .int ((sGg fq fr k) ||| (if fr (5 * k) = fq 1 then iShl (nI 1) (nI k) else nI 0))), (12, .int ((sRr fr 4 k) + (fr (5 * k + 4)))), (11, .int ((sRr fr 3 k) + (fr (5 * k + 3)))), (10, .int ((sRr fr 1 k) + (fr (5 * k + 1)))), (9, .int (nI (sSs fq fr k + (if fr (5 * k + 1) < fq 4 then 0 else 1)))), (8, .int ((sRr fr 2 k) + (fr (5 * k + 2)))), (14, .int (nI k)), (7, .int (nI (sM tn 20))), (6, .int (nI (sT tn 20))), (0, .ref (w 0)), (1, .int xx), (2, .ref aq), (3, .ref at9), (4, .ref ar), (5, .ref ab)]) hx hb dL_isSo_198 hl (by decide) rfl (fun ls hl => ?_)
                  refine lv_iinc (v := nI (k + 1)) (lv' := [(14, .int (nI (k + 1))), (13, .int ((sGg fq fr k) ||| (if fr (5 * k) = fq 1 then iShl (nI 1) (nI k) else nI 0))), (12, .int ((sRr fr 4 k) + (fr (5 * k + 4)))), (11, .int ((sRr fr 3 k) + (fr (5 * k + 3)))), (10, .int ((sRr fr 1 k) + (fr (5 * k + 1)))), (9, .int (nI (sSs fq fr k + (if fr (5 * k + 1) < fq 4 then 0 else 1)))), (8, .int ((sRr fr 2 k) + (fr (5 * k + 2)))), (7, .int (nI (sM tn 20))), (6, .int (nI (sT tn 20))), (0, .ref (w 0)), (1, .int xx), (2, .ref aq), (3, .ref at9), (4, .ref ar), (5, .ref ab)]) hx hb dL_isSo_200 hl (k := 6) rfl (n_inc k 1 rfl) (by decide) rfl (fun ls hl => ?_)
                  refine lv_goto (tgt := 86) hx hb dL_isSo_203 (by decide) ?_
                  have e_55 : ((sGg fq fr k) ||| (if fr (5 * k) = fq 1 then iShl (nI 1) (nI k) else nI 0)) = sGg fq fr (k + 1) := rfl
                  have e_56 : ((sRr fr 4 k) + (fr (5 * k + 4))) = sRr fr 4 (k + 1) := rfl
                  have e_57 : ((sRr fr 3 k) + (fr (5 * k + 3))) = sRr fr 3 (k + 1) := rfl
                  have e_58 : ((sRr fr 1 k) + (fr (5 * k + 1))) = sRr fr 1 (k + 1) := rfl
                  have e_59 : (nI (sSs fq fr k + (if fr (5 * k + 1) < fq 4 then 0 else 1))) = nI (sSs fq fr (k + 1)) := rfl
                  have e_60 : ((sRr fr 2 k) + (fr (5 * k + 2))) = sRr fr 2 (k + 1) := rfl
                  exact ih86 (k + 1) (by omega) (by omega) _ _ _ _ _ _ _ rfl e_55 e_56 e_57 e_58 e_59 e_60 _ _ hP hD hS _ (lv_sub hl [0, 1, 2, 3, 4, 5, 6, 7, 8, 9, 10, 11, 12, 13, 14] rfl)
                refine lv_icmp_ne (tgt := 196) hx hb dL_isSo_186 (by decide) (fun c_61 => ?_) (fun c_62 => ?_)
                · skip
                  refine n_iconst hx hb 0 dL_isSo_196 (by decide) ?_
                  exact J_54 _ (by first | rw [if_pos c_61] | rw [if_neg c_61])
                · skip
                  refine n_iconst hx hb 1 dL_isSo_189 (by decide) ?_
                  refine lv_iload hx hb dL_isSo_190 (lv_at hl 5 rfl) ?_
                  refine x_ishl hx hb dL_isSo_192 ?_
                  refine lv_goto (tgt := 197) hx hb dL_isSo_193 (by decide) ?_
                  exact J_54 _ (by first | rw [if_pos c_62] | rw [if_neg c_62])
              refine lv_icmp_lt (tgt := 128) hx hb dL_isSo_121 (by decide) (fun c_63 => ?_) (fun c_64 => ?_)
              · skip
                refine n_iconst hx hb 0 dL_isSo_128 (by decide) ?_
                exact J_53 _ (by first | rw [if_pos c_63] | rw [if_neg c_63])
              · skip
                refine n_iconst hx hb 1 dL_isSo_124 (by decide) ?_
                refine lv_goto (tgt := 129) hx hb dL_isSo_125 (by decide) ?_
                exact J_53 _ (by first | rw [if_pos c_64] | rw [if_neg c_64])
        exact L86_i_3 (6 + 1) 0 (by omega) (by omega) _ _ _ _ _ _ _ rfl rfl rfl rfl rfl rfl rfl _ _ hP hD hS _ (lv_sub hl [0, 1, 2, 3, 4, 5, 6, 7, 8, 9, 10, 11, 12, 13, 14] rfl)
      · skip
        refine lv_iload hx hb dL_isSo_16 (lv_at hl 2 rfl) ?_
        have htk := htn9 k (by omega)
        have hmk := uMy_9 htk
        refine lv_aload_n hx hb dL_isSo_18 rfl (lv_at hl 6 rfl) ?_
        refine lv_iload hx hb dL_isSo_19 (lv_at hl 0 rfl) ?_
        refine n_iald hx hb hK hP 1 0 rfl rfl k (by omega) (by decide) dL_isSo_21 ?_
        refine n_top (y := nI (tn k)) (htn _ (by omega)) ?_
        have J_65 : ∀ y9 : Int32, y9 = (nI (if tn k = 0 then 0 else 1)) → W p l e (headSpec wsL_isSo (rmD 17 0 0)).room s m args below meth c H locs 0 0 Q0 (F0 m 30 ls (.int y9 :: .int (nI (sT tn k)) :: [])) := by
          intro y9 hy9
          subst hy9
          refine n_iadd (a := sT tn k) (b := if tn k = 0 then 0 else 1) hx hb dL_isSo_30 ?_
          refine lv_istore (lv' := [(6, .int (nI (sT tn k + (if tn k = 0 then 0 else 1)))), (8, .int (nI k)), (7, .int (nI (sM tn k))), (0, .ref (w 0)), (1, .int xx), (2, .ref aq), (3, .ref at9), (4, .ref ar), (5, .ref ab)]) hx hb dL_isSo_31 hl (by decide) rfl (fun ls hl => ?_)
          refine lv_aload_n hx hb dL_isSo_33 rfl (lv_at hl 6 rfl) ?_
          refine lv_iload hx hb dL_isSo_34 (lv_at hl 1 rfl) ?_
          refine n_iald hx hb hK hP 1 0 rfl rfl k (by omega) (by decide) dL_isSo_36 ?_
          refine n_top (y := nI (tn k)) (htn _ (by omega)) ?_
          refine k_roS (As := [.int (nI (tn k))]) (rest := []) (wc := []) (d := 0) (v := nI (uMy (tn k))) cx (c_L_many l G T A (tn k) (by omega)) (va_cwS 1 hts gL_isSo_L_many rfl rfl rfl (by decide +kernel) ⟨Nat.le_of_ble_eq_true rfl, Nat.le_of_ble_eq_true rfl⟩) (hP.sub (ws' := []) [] rfl) hK (hE.kept hS.2.1) rfl hl.1 rfl (Nat.le_of_ble_eq_true rfl) dL_isSo_37 ⟨Nat.le_of_ble_eq_true rfl, Nat.le_of_ble_eq_true rfl⟩ ?_
          refine lv_iload hx hb dL_isSo_40 (lv_at hl 2 rfl) ?_
          have J_66 : ∀ y9 : Int32, y9 = (nI (sM tn (k + 1))) → W p l e (headSpec wsL_isSo (rmD 17 0 0)).room s m args below meth c H locs 0 0 Q0 (F0 m 57 ls (.int y9 :: [])) := by
            intro y9 hy9
            subst hy9
            refine lv_istore (lv' := [(7, .int (nI (sM tn (k + 1)))), (6, .int (nI (sT tn k + (if tn k = 0 then 0 else 1)))), (8, .int (nI k)), (0, .ref (w 0)), (1, .int xx), (2, .ref aq), (3, .ref at9), (4, .ref ar), (5, .ref ab)]) hx hb dL_isSo_57 hl (by decide) rfl (fun ls hl => ?_)
            refine lv_iinc (v := nI (k + 1)) (lv' := [(8, .int (nI (k + 1))), (7, .int (nI (sM tn (k + 1)))), (6, .int (nI (sT tn k + (if tn k = 0 then 0 else 1)))), (0, .ref (w 0)), (1, .int xx), (2, .ref aq), (3, .ref at9), (4, .ref ar), (5, .ref ab)]) hx hb dL_isSo_59 hl (k := 2) rfl (n_inc k 1 rfl) (by decide) rfl (fun ls hl => ?_)
            refine lv_goto (tgt := 9) hx hb dL_isSo_62 (by decide) ?_
            have e_67 : (nI (sT tn k + (if tn k = 0 then 0 else 1))) = nI (sT tn (k + 1)) := rfl
            exact ih9 (k + 1) (by omega) (by omega) _ _ _ rfl rfl e_67 _ _ hP hD hS _ (lv_sub hl [0, 1, 2, 3, 4, 5, 6, 7, 8] rfl)
          refine n_icmp_le (a := uMy (tn k)) (b := sM tn k) (tgt := 55) hx hb (by omega) (by omega) dL_isSo_42 (by decide) (fun c_68 => ?_) (fun c_69 => ?_)
          · skip
            refine lv_iload hx hb dL_isSo_55 (lv_at hl 2 rfl) ?_
            exact J_66 _ (by first | (rw [show sM tn (k + 1) = uMy (tn k) from if_pos (by omega)]) | (rw [show sM tn (k + 1) = sM tn k from if_neg (by omega)]))
          · skip
            refine lv_aload_n hx hb dL_isSo_45 rfl (lv_at hl 6 rfl) ?_
            refine lv_iload hx hb dL_isSo_46 (lv_at hl 1 rfl) ?_
            refine n_iald hx hb hK hP 1 0 rfl rfl k (by omega) (by decide) dL_isSo_48 ?_
            refine n_top (y := nI (tn k)) (htn _ (by omega)) ?_
            refine k_roS (As := [.int (nI (tn k))]) (rest := []) (wc := []) (d := 0) (v := nI (uMy (tn k))) cx (c_L_many l G T A (tn k) (by omega)) (va_cwS 1 hts gL_isSo_L_many rfl rfl rfl (by decide +kernel) ⟨Nat.le_of_ble_eq_true rfl, Nat.le_of_ble_eq_true rfl⟩) (hP.sub (ws' := []) [] rfl) hK (hE.kept hS.2.1) rfl hl.1 rfl (Nat.le_of_ble_eq_true rfl) dL_isSo_49 ⟨Nat.le_of_ble_eq_true rfl, Nat.le_of_ble_eq_true rfl⟩ ?_
            refine lv_goto (tgt := 57) hx hb dL_isSo_52 (by decide) ?_
            exact J_66 _ (by first | (rw [show sM tn (k + 1) = uMy (tn k) from if_pos (by omega)]) | (rw [show sM tn (k + 1) = sM tn k from if_neg (by omega)]))
        refine n_if_ne (a := tn k) (tgt := 29) hx hb (by omega) dL_isSo_22 (by decide) (fun c_70 => ?_) (fun c_71 => ?_)
        · skip
          refine n_iconst hx hb 1 dL_isSo_29 (by decide) ?_
          exact J_65 _ (by first | rw [if_pos c_70] | rw [if_neg c_70])
        · skip
          refine n_iconst hx hb 0 dL_isSo_25 (by decide) ?_
          refine lv_goto (tgt := 30) hx hb dL_isSo_26 (by decide) ?_
          exact J_65 _ (by first | rw [if_pos c_71] | rw [if_neg c_71])
  exact L9 (20 + 1) 0 (by omega) (by omega) _ _ _ rfl rfl rfl _ _ hP hD hS _ (lv_sub hl [0, 1, 2, 3, 4, 5, 6, 7, 8] rfl)
