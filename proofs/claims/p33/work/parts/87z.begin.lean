theorem lt9_all : ∀ n : Fin 9, n.val = 0 ∨ n.val = 1 ∨ n.val = 2 ∨ n.val = 3 ∨ n.val = 4 ∨ n.val = 5 ∨ n.val = 6 ∨ n.val = 7 ∨ n.val = 8 := by decide +kernel
theorem lt9 (k : Nat) (h : k < 9) : k = 0 ∨ k = 1 ∨ k = 2 ∨ k = 3 ∨ k = 4 ∨ k = 5 ∨ k = 6 ∨ k = 7 ∨ k = 8 := lt9_all ⟨k, h⟩
set_option maxHeartbeats 16000000 in
set_option maxRecDepth 100000 in
/-- YOUR PART: from the entry, for every script of at most 260 ints, the law comes to its end with true -/
theorem whole_start {p : Program} {e : Env} {s : State} {m : MethodId} {below : List Frame} {meth : Method} {c : Code} (l : Launch) (hflags : l.flags = flags0) {b L : Nat} {xs : Nat → Int32} (hL : L ≤ 260) (C0 : lw_At p s m meth c b L xs) : W p l e room_1 s m #[Value.ref b] below meth c s.heap [] 0 0 (lw_Z below #[Value.ref b] s) (entryFrame m ([Value.ref b] : List Value).toArray 16) := by
  obtain ⟨G, T, hK⟩ := st_K C0
  have hE := st_gE C0
  have hO := st_AO C0
  have hgC := st_gC C0
  have hgN := st_gNn C0
  have hst : l.stackTraces = false := by
    unfold Launch.stackTraces
    rw [hflags]
    decide
  obtain ⟨hx, hb, hr, hml, hown, hts0, hX, hbl, hlocks, hgv⟩ := id C0
  have hown : s.vm.findClass RL = some m.cls := hown
  have hts : ∀ w ∈ wsLw, w.before #[Value.ref b] s = true := fun w h => hts0 w (wsLw_in w h)
  have hA : ∀ q : Nat, s.heap.size ≤ q → (fun q : Nat => s.heap.size ≤ q) q := fun _ h => h
  have E : lwE l p s m c b L xs G T (fun q : Nat => s.heap.size ≤ q) := ⟨hx, hb, hml, hown, hts, hX, hbl, Nat.not_le.mpr hbl, hA, hst, hK, hE, hgC, hgN⟩
  have cx : CallFix p m c cL_law 16 s #[Value.ref b] wsLw RL := ⟨hx, hb, hml, hown, hts⟩
  have hS : va_S (fun q : Nat => s.heap.size ≤ q) s.heap s.heap [] := va_S.rf
  have hP : va_P G vwCl [] s.heap := fun k q h => by simp at h
  have hD : va_D (fun q : Nat => s.heap.size ≤ q) [] := ⟨fun i j p q h => by simp at h, fun k q h => by simp at h⟩
  have hl := lv_entry ([.ref b]) (n := 16) (Nat.le_of_ble_eq_true rfl)
  rw [lg_entry_eq]
  generalize (lg_sl ([.ref b]) ++ List.replicate (16 - (lg_sl ([.ref b])).length) Slot.unset).toArray = ls at hl ⊢
  have hl : lv_has ls 16 [(0, .ref b)] := hl
  refine va_new (ci := 7) (fs := [.null, .null, .null, .null, .null, .null, .null, .null, .int 0]) (C := RX7) (T := TX7) (N := 9) hx hb hts0 lw_inwsX70 tyX7 tyX7_ok hown (hts0 (.classLink RL 11 RX7) (tI (i := 24) (by decide +kernel))) (hts0 (.instantiable RX7 9) (tI (i := 25) (by decide +kernel))) (hts0 (.initialized RX7) (tI (i := 1) (by decide +kernel))) hK hP hD hS hA rfl (fun j hj => by rcases lt9 j hj with rfl | rfl | rfl | rfl | rfl | rfl | rfl | rfl | rfl <;> rfl) (Nat.le_of_ble_eq_true rfl) (Nat.le_of_ble_eq_true rfl) dL_law_0 (fun q7 H hP hD hS => ?_)
  refine lv_dup hx hb dL_law_3 rfl ?_
  refine k_rnI (Wr := []) (rest := [.ref q7]) (d := 5) (mc := 116) (ms := 3705) cx (c_X7_init l G T H.size q7) (cwI 0 hts hL_X7_init rfl rfl rfl (hts0 (.initialized RX7) (tI (i := 1) (by decide +kernel))) (hts0 (.methodLink RL 218 yX7_init) (tI (i := 26) (by decide +kernel))) (hts0 (.instanceMethod yX7_init) (tI (i := 27) (by decide +kernel))) rfl (by decide +kernel) ⟨Nat.le_of_ble_eq_true rfl, Nat.le_of_ble_eq_true rfl⟩) hP hD hS hA hE hK hO hl.1 rfl (Nat.le_of_ble_eq_true rfl) dL_law_4 ⟨Nat.le_of_ble_eq_true rfl, Nat.le_of_ble_eq_true rfl⟩ (fun a9 H locs ha hP hD hS => ?_)
  have ha : a9.1 0 = q7 := ha
  have hP : va_P G vwCl (oC T a9 cc0) H := by rw [← oC_eq]; exact hP
  have hD : va_D (fun q : Nat => s.heap.size ≤ q) (oC T a9 cc0) := by rw [← oC_eq]; exact hD
  refine lv_astore_n (lv' := [(1, .ref q7), (0, .ref b)]) hx hb dL_law_7 rfl hl (by decide) rfl (fun ls hl => ?_)
  refine lv_bipush (v := nI 12) hx hb dL_law_8 (by decide) ?_
  refine n_newa (atype := .int) (ty := .int) hx hb (hts0 (.arrayClass .int) (tI (i := 105) (by decide +kernel))) rfl 0 rfl hK hP hD hS hA 12 (a0 := (12, .inl iL0)) (fun _ => rfl) (by decide) (Nat.le_of_ble_eq_true rfl) (Nat.le_of_ble_eq_true rfl) (Nat.le_of_ble_eq_true rfl) dL_law_10 (fun aq H hP hD hS => ?_)
  refine lv_astore_n (lv' := [(2, .ref aq), (1, .ref q7), (0, .ref b)]) hx hb dL_law_12 rfl hl (by decide) rfl (fun ls hl => ?_)
  refine lv_bipush (v := nI 60) hx hb dL_law_13 (by decide) ?_
  refine n_newa (atype := .int) (ty := .int) hx hb (hts0 (.arrayClass .int) (tI (i := 105) (by decide +kernel))) rfl 0 rfl hK hP hD hS hA 60 (a0 := (60, .inl iL0)) (fun _ => rfl) (by decide) (Nat.le_of_ble_eq_true rfl) (Nat.le_of_ble_eq_true rfl) (Nat.le_of_ble_eq_true rfl) dL_law_15 (fun at9 H hP hD hS => ?_)
  refine lv_astore_n (lv' := [(3, .ref at9), (2, .ref aq), (1, .ref q7), (0, .ref b)]) hx hb dL_law_17 rfl hl (by decide) rfl (fun ls hl => ?_)
  refine lv_bipush (v := nI 30) hx hb dL_law_18 (by decide) ?_
  refine n_newa (atype := .int) (ty := .int) hx hb (hts0 (.arrayClass .int) (tI (i := 105) (by decide +kernel))) rfl 0 rfl hK hP hD hS hA 30 (a0 := (30, .inl iL0)) (fun _ => rfl) (by decide) (Nat.le_of_ble_eq_true rfl) (Nat.le_of_ble_eq_true rfl) (Nat.le_of_ble_eq_true rfl) dL_law_20 (fun ar H hP hD hS => ?_)
  refine lv_astore (lv' := [(4, .ref ar), (3, .ref at9), (2, .ref aq), (1, .ref q7), (0, .ref b)]) hx hb dL_law_22 hl (by decide) rfl (fun ls hl => ?_)
  refine n_iconst hx hb 3 dL_law_24 (by decide) ?_
  refine n_newa (atype := .int) (ty := .int) hx hb (hts0 (.arrayClass .int) (tI (i := 105) (by decide +kernel))) rfl 0 rfl hK hP hD hS hA 3 (a0 := (3, .inl iL0)) (fun _ => rfl) (by decide) (Nat.le_of_ble_eq_true rfl) (Nat.le_of_ble_eq_true rfl) (Nat.le_of_ble_eq_true rfl) dL_law_25 (fun ab H hP hD hS => ?_)
  refine lv_astore (lv' := [(5, .ref ab), (4, .ref ar), (3, .ref at9), (2, .ref aq), (1, .ref q7), (0, .ref b)]) hx hb dL_law_27 hl (by decide) rfl (fun ls hl => ?_)
  have hpm : ((((oC T a9 cc0 ++ [(aq, .inl (T 0, 12, .inl iL0))]) ++ [(at9, .inl (T 0, 60, .inl iL0))]) ++ [(ar, .inl (T 0, 30, .inl iL0))]) ++ [(ab, .inl (T 0, 3, .inl iL0))] : va_W).Perm (lwW T aq at9 ar ab iL0 iL0 iL0 iL0 a9 cc0) := by
    rw [List.append_assoc, List.append_assoc, List.append_assoc]
    exact List.perm_append_comm
  have hP : va_P G vwCl (lwW T aq at9 ar ab iL0 iL0 iL0 iL0 a9 cc0) H := hP.perm hpm
  have hD : va_D (fun q : Nat => s.heap.size ≤ q) (lwW T aq at9 ar ab iL0 iL0 iL0 iL0 a9 cc0) := hD.perm hpm
  refine lv_aload_n hx hb dL_law_29 rfl (lv_at hl 3 rfl) ?_
  refine n_iconst hx hb 3 dL_law_30 (by decide) ?_
  refine n_iconst hx hb 1 dL_law_31 (by decide) ?_
  refine n_iast hx hb hK hP hD hS 0 0 rfl rfl 3 (by decide) (by decide) dL_law_32 (fun H locs hP hD hS => ?_)
  have hP : va_P G vwCl (lwW T aq at9 ar ab (upd iL0 3 (nI 1)) iL0 iL0 iL0 a9 cc0) H := hP
  have hD : va_D (fun q : Nat => s.heap.size ≤ q) (lwW T aq at9 ar ab (upd iL0 3 (nI 1)) iL0 iL0 iL0 a9 cc0) := hD
  refine lv_aload_n hx hb dL_law_33 rfl (lv_at hl 3 rfl) ?_
  refine n_iconst hx hb 4 dL_law_34 (by decide) ?_
  refine n_iconst hx hb 3 dL_law_35 (by decide) ?_
  refine n_iast hx hb hK hP hD hS 0 0 rfl rfl 4 (by decide) (by decide) dL_law_36 (fun H locs hP hD hS => ?_)
  have hP : va_P G vwCl (lwW T aq at9 ar ab (upd (upd iL0 3 (nI 1)) 4 (nI 3)) iL0 iL0 iL0 a9 cc0) H := hP
  have hD : va_D (fun q : Nat => s.heap.size ≤ q) (lwW T aq at9 ar ab (upd (upd iL0 3 (nI 1)) 4 (nI 3)) iL0 iL0 iL0 a9 cc0) := hD
  refine lv_bipush (v := nI 6) hx hb dL_law_37 (by decide) ?_
  refine lv_istore (lv' := [(6, .int (nI 6)), (5, .ref ab), (4, .ref ar), (3, .ref at9), (2, .ref aq), (1, .ref q7), (0, .ref b)]) hx hb dL_law_39 hl (by decide) rfl (fun ls hl => ?_)
  refine lv_iload hx hb dL_law_41 (lv_at hl 0 rfl) ?_
  refine lv_bipush (v := nI 12) hx hb dL_law_43 (by decide) ?_
  refine n_icmp_ge (a := 6) (b := 12) (tgt := 59) hx hb (by decide) (by decide) dL_law_45 (by decide) (fun h9 => absurd h9 (by decide)) (fun _ => ?_)
  refine lv_aload_n hx hb dL_law_48 rfl (lv_at hl 4 rfl) ?_
  refine lv_iload hx hb dL_law_49 (lv_at hl 0 rfl) ?_
  refine lv_iconst (v := -1) hx hb dL_law_51 (by decide) ?_
  refine n_iast hx hb hK hP hD hS 0 0 rfl rfl 6 (by decide) (by decide) dL_law_52 (fun H locs hP hD hS => ?_)
  have hP : va_P G vwCl (lwW T aq at9 ar ab (upd (upd (upd iL0 3 (nI 1)) 4 (nI 3)) 6 (-1)) iL0 iL0 iL0 a9 cc0) H := hP
  have hD : va_D (fun q : Nat => s.heap.size ≤ q) (lwW T aq at9 ar ab (upd (upd (upd iL0 3 (nI 1)) 4 (nI 3)) 6 (-1)) iL0 iL0 iL0 a9 cc0) := hD
  refine lv_iinc (v := nI 7) (lv' := [(6, .int (nI 7)), (5, .ref ab), (4, .ref ar), (3, .ref at9), (2, .ref aq), (1, .ref q7), (0, .ref b)]) hx hb dL_law_53 hl (k := 0) rfl (n_inc 6 1 rfl) (by decide) rfl (fun ls hl => ?_)
  refine lv_goto (tgt := 41) hx hb dL_law_56 (by decide) ?_
  refine lv_iload hx hb dL_law_41 (lv_at hl 0 rfl) ?_
  refine lv_bipush (v := nI 12) hx hb dL_law_43 (by decide) ?_
  refine n_icmp_ge (a := 7) (b := 12) (tgt := 59) hx hb (by decide) (by decide) dL_law_45 (by decide) (fun h9 => absurd h9 (by decide)) (fun _ => ?_)
  refine lv_aload_n hx hb dL_law_48 rfl (lv_at hl 4 rfl) ?_
  refine lv_iload hx hb dL_law_49 (lv_at hl 0 rfl) ?_
  refine lv_iconst (v := -1) hx hb dL_law_51 (by decide) ?_
  refine n_iast hx hb hK hP hD hS 0 0 rfl rfl 7 (by decide) (by decide) dL_law_52 (fun H locs hP hD hS => ?_)
  have hP : va_P G vwCl (lwW T aq at9 ar ab (upd (upd (upd (upd iL0 3 (nI 1)) 4 (nI 3)) 6 (-1)) 7 (-1)) iL0 iL0 iL0 a9 cc0) H := hP
  have hD : va_D (fun q : Nat => s.heap.size ≤ q) (lwW T aq at9 ar ab (upd (upd (upd (upd iL0 3 (nI 1)) 4 (nI 3)) 6 (-1)) 7 (-1)) iL0 iL0 iL0 a9 cc0) := hD
  refine lv_iinc (v := nI 8) (lv' := [(6, .int (nI 8)), (5, .ref ab), (4, .ref ar), (3, .ref at9), (2, .ref aq), (1, .ref q7), (0, .ref b)]) hx hb dL_law_53 hl (k := 0) rfl (n_inc 7 1 rfl) (by decide) rfl (fun ls hl => ?_)
  refine lv_goto (tgt := 41) hx hb dL_law_56 (by decide) ?_
  refine lv_iload hx hb dL_law_41 (lv_at hl 0 rfl) ?_
  refine lv_bipush (v := nI 12) hx hb dL_law_43 (by decide) ?_
  refine n_icmp_ge (a := 8) (b := 12) (tgt := 59) hx hb (by decide) (by decide) dL_law_45 (by decide) (fun h9 => absurd h9 (by decide)) (fun _ => ?_)
  refine lv_aload_n hx hb dL_law_48 rfl (lv_at hl 4 rfl) ?_
  refine lv_iload hx hb dL_law_49 (lv_at hl 0 rfl) ?_
  refine lv_iconst (v := -1) hx hb dL_law_51 (by decide) ?_
  refine n_iast hx hb hK hP hD hS 0 0 rfl rfl 8 (by decide) (by decide) dL_law_52 (fun H locs hP hD hS => ?_)
  have hP : va_P G vwCl (lwW T aq at9 ar ab (upd (upd (upd (upd (upd iL0 3 (nI 1)) 4 (nI 3)) 6 (-1)) 7 (-1)) 8 (-1)) iL0 iL0 iL0 a9 cc0) H := hP
  have hD : va_D (fun q : Nat => s.heap.size ≤ q) (lwW T aq at9 ar ab (upd (upd (upd (upd (upd iL0 3 (nI 1)) 4 (nI 3)) 6 (-1)) 7 (-1)) 8 (-1)) iL0 iL0 iL0 a9 cc0) := hD
  refine lv_iinc (v := nI 9) (lv' := [(6, .int (nI 9)), (5, .ref ab), (4, .ref ar), (3, .ref at9), (2, .ref aq), (1, .ref q7), (0, .ref b)]) hx hb dL_law_53 hl (k := 0) rfl (n_inc 8 1 rfl) (by decide) rfl (fun ls hl => ?_)
  refine lv_goto (tgt := 41) hx hb dL_law_56 (by decide) ?_
  refine lv_iload hx hb dL_law_41 (lv_at hl 0 rfl) ?_
  refine lv_bipush (v := nI 12) hx hb dL_law_43 (by decide) ?_
  refine n_icmp_ge (a := 9) (b := 12) (tgt := 59) hx hb (by decide) (by decide) dL_law_45 (by decide) (fun h9 => absurd h9 (by decide)) (fun _ => ?_)
  refine lv_aload_n hx hb dL_law_48 rfl (lv_at hl 4 rfl) ?_
  refine lv_iload hx hb dL_law_49 (lv_at hl 0 rfl) ?_
  refine lv_iconst (v := -1) hx hb dL_law_51 (by decide) ?_
  refine n_iast hx hb hK hP hD hS 0 0 rfl rfl 9 (by decide) (by decide) dL_law_52 (fun H locs hP hD hS => ?_)
  have hP : va_P G vwCl (lwW T aq at9 ar ab (upd (upd (upd (upd (upd (upd iL0 3 (nI 1)) 4 (nI 3)) 6 (-1)) 7 (-1)) 8 (-1)) 9 (-1)) iL0 iL0 iL0 a9 cc0) H := hP
  have hD : va_D (fun q : Nat => s.heap.size ≤ q) (lwW T aq at9 ar ab (upd (upd (upd (upd (upd (upd iL0 3 (nI 1)) 4 (nI 3)) 6 (-1)) 7 (-1)) 8 (-1)) 9 (-1)) iL0 iL0 iL0 a9 cc0) := hD
  refine lv_iinc (v := nI 10) (lv' := [(6, .int (nI 10)), (5, .ref ab), (4, .ref ar), (3, .ref at9), (2, .ref aq), (1, .ref q7), (0, .ref b)]) hx hb dL_law_53 hl (k := 0) rfl (n_inc 9 1 rfl) (by decide) rfl (fun ls hl => ?_)
  refine lv_goto (tgt := 41) hx hb dL_law_56 (by decide) ?_
  refine lv_iload hx hb dL_law_41 (lv_at hl 0 rfl) ?_
  refine lv_bipush (v := nI 12) hx hb dL_law_43 (by decide) ?_
  refine n_icmp_ge (a := 10) (b := 12) (tgt := 59) hx hb (by decide) (by decide) dL_law_45 (by decide) (fun h9 => absurd h9 (by decide)) (fun _ => ?_)
  refine lv_aload_n hx hb dL_law_48 rfl (lv_at hl 4 rfl) ?_
  refine lv_iload hx hb dL_law_49 (lv_at hl 0 rfl) ?_
  refine lv_iconst (v := -1) hx hb dL_law_51 (by decide) ?_
  refine n_iast hx hb hK hP hD hS 0 0 rfl rfl 10 (by decide) (by decide) dL_law_52 (fun H locs hP hD hS => ?_)
  have hP : va_P G vwCl (lwW T aq at9 ar ab (upd (upd (upd (upd (upd (upd (upd iL0 3 (nI 1)) 4 (nI 3)) 6 (-1)) 7 (-1)) 8 (-1)) 9 (-1)) 10 (-1)) iL0 iL0 iL0 a9 cc0) H := hP
  have hD : va_D (fun q : Nat => s.heap.size ≤ q) (lwW T aq at9 ar ab (upd (upd (upd (upd (upd (upd (upd iL0 3 (nI 1)) 4 (nI 3)) 6 (-1)) 7 (-1)) 8 (-1)) 9 (-1)) 10 (-1)) iL0 iL0 iL0 a9 cc0) := hD
  refine lv_iinc (v := nI 11) (lv' := [(6, .int (nI 11)), (5, .ref ab), (4, .ref ar), (3, .ref at9), (2, .ref aq), (1, .ref q7), (0, .ref b)]) hx hb dL_law_53 hl (k := 0) rfl (n_inc 10 1 rfl) (by decide) rfl (fun ls hl => ?_)
  refine lv_goto (tgt := 41) hx hb dL_law_56 (by decide) ?_
  refine lv_iload hx hb dL_law_41 (lv_at hl 0 rfl) ?_
  refine lv_bipush (v := nI 12) hx hb dL_law_43 (by decide) ?_
  refine n_icmp_ge (a := 11) (b := 12) (tgt := 59) hx hb (by decide) (by decide) dL_law_45 (by decide) (fun h9 => absurd h9 (by decide)) (fun _ => ?_)
  refine lv_aload_n hx hb dL_law_48 rfl (lv_at hl 4 rfl) ?_
  refine lv_iload hx hb dL_law_49 (lv_at hl 0 rfl) ?_
  refine lv_iconst (v := -1) hx hb dL_law_51 (by decide) ?_
  refine n_iast hx hb hK hP hD hS 0 0 rfl rfl 11 (by decide) (by decide) dL_law_52 (fun H locs hP hD hS => ?_)
  have hP : va_P G vwCl (lwW T aq at9 ar ab (upd (upd (upd (upd (upd (upd (upd (upd iL0 3 (nI 1)) 4 (nI 3)) 6 (-1)) 7 (-1)) 8 (-1)) 9 (-1)) 10 (-1)) 11 (-1)) iL0 iL0 iL0 a9 cc0) H := hP
  have hD : va_D (fun q : Nat => s.heap.size ≤ q) (lwW T aq at9 ar ab (upd (upd (upd (upd (upd (upd (upd (upd iL0 3 (nI 1)) 4 (nI 3)) 6 (-1)) 7 (-1)) 8 (-1)) 9 (-1)) 10 (-1)) 11 (-1)) iL0 iL0 iL0 a9 cc0) := hD
  refine lv_iinc (v := nI 12) (lv' := [(6, .int (nI 12)), (5, .ref ab), (4, .ref ar), (3, .ref at9), (2, .ref aq), (1, .ref q7), (0, .ref b)]) hx hb dL_law_53 hl (k := 0) rfl (n_inc 11 1 rfl) (by decide) rfl (fun ls hl => ?_)
  refine lv_goto (tgt := 41) hx hb dL_law_56 (by decide) ?_
  refine lv_iload hx hb dL_law_41 (lv_at hl 0 rfl) ?_
  refine lv_bipush (v := nI 12) hx hb dL_law_43 (by decide) ?_
  refine n_icmp_ge (a := 12) (b := 12) (tgt := 59) hx hb (by decide) (by decide) dL_law_45 (by decide) (fun _ => ?_) (fun h9 => absurd h9 (by decide))
  refine n_iconst hx hb 0 dL_law_59 (by decide) ?_
  refine lv_istore (lv' := [(6, .int (nI 0)), (5, .ref ab), (4, .ref ar), (3, .ref at9), (2, .ref aq), (1, .ref q7), (0, .ref b)]) hx hb dL_law_60 hl (by decide) rfl (fun ls hl => ?_)
  rw [← ha] at hl
  refine W.widen (k := 121 + 2 * 0) (n := 3819 + 12 * 0) (Nat.le_of_ble_eq_true rfl) (Nat.le_of_ble_eq_true rfl) ?_
  exact law_loop E hL hr hlocks 50 0 H _ ls cc0 iLQ iL0 iL0 iL0 iLn rfl hP hD hS JX_0 (lv_sub hl [6, 5, 4, 3, 2, 1, 0] rfl)
