set_option maxHeartbeats 16000000 in
set_option maxRecDepth 100000 in
/-- YOUR PART: from the entry, for every script of at most 2048 ints, the law comes to its end with true -/
theorem whole_start {p : Program} {e : Env} {s : State} {m : MethodId} {below : List Frame} {meth : Method} {c : Code} (l : Launch) (hflags : l.flags = flags0) {b L : Nat} {xs : Nat → Int32} (hL : L ≤ 2048) (C0 : lw_At p s m meth c b L xs) : W p l e room_1 s m #[Value.ref b] below meth c s.heap [] 0 0 (lw_Z below #[Value.ref b] s) (entryFrame m ([Value.ref b] : List Value).toArray 9) := by
  obtain ⟨G, T, hK⟩ := st_K C0
  have hE := st_gE C0
  have hO := st_AO C0
  have hgC := st_gC C0
  have hgN := st_gNn C0
  have hst : l.stackTraces = false := by
    unfold Launch.stackTraces
    rw [hflags]
    decide
  obtain ⟨hx, hb, hr, hml, hown, hts0, hX, hbl, hlocks, hgv⟩ := id C0
  have hown : s.vm.findClass RL = some m.cls := hown
  have hts : ∀ w ∈ wsLw, w.before #[Value.ref b] s = true := fun w h => hts0 w (wsLw_in w h)
  have E : lwE l p s m c b L xs G T := ⟨hx, hb, hml, hown, hts, hX, hbl, hst, hK, hE, hgC, hgN⟩
  have cx : CallFix p m c cL_law 9 s #[Value.ref b] wsLw RL := ⟨hx, hb, hml, hown, hts⟩
  have hA : ∀ q : Nat, s.heap.size ≤ q → (fun q : Nat => s.heap.size ≤ q) q := fun _ h => h
  have hS : va_S (fun q : Nat => s.heap.size ≤ q) s.heap s.heap [] := va_S.rf
  have hP : va_P G vwCl [] s.heap := fun k q h => by simp at h
  have hD : va_D (fun q : Nat => s.heap.size ≤ q) [] := ⟨fun i j p q h => by simp at h, fun k q h => by simp at h⟩
  have hl := lv_entry ([.ref b]) (n := 9) (Nat.le_of_ble_eq_true rfl)
  rw [lg_entry_eq]
  generalize (lg_sl ([.ref b]) ++ List.replicate (9 - (lg_sl ([.ref b])).length) Slot.unset).toArray = ls at hl ⊢
  have hl : lv_has ls 9 [(0, .ref b)] := hl
  refine va_new (ci := 7) (fs := [.null, .null, .null, .null, .null, .null, .null, .null, .int 0]) (C := RX7) (T := TX7) (N := 9) hx hb hts0 lw_inwsX70 tyX7 tyX7_ok hown (hts0 (.classLink RL 8 RX7) (tI (i := 27) (by decide +kernel))) (hts0 (.instantiable RX7 9) (tI (i := 28) (by decide +kernel))) (hts0 (.initialized RX7) (tI (i := 1) (by decide +kernel))) hK hP hD hS hA rfl (fun j hj => by rcases lt9 j hj with rfl | rfl | rfl | rfl | rfl | rfl | rfl | rfl | rfl <;> rfl) (Nat.le_of_ble_eq_true rfl) (Nat.le_of_ble_eq_true rfl) dL_law_0 (fun q7 H hP hD hS => ?_)
  refine lv_dup hx hb dL_law_3 rfl ?_
  refine k_rnI (Wr := []) (rest := [.ref q7]) (d := 5) (mc := 116) (ms := 3705) cx (c_X7_init l G T H.size q7) (cwI 0 hts hL_X7_init rfl rfl rfl (hts0 (.initialized RX7) (tI (i := 1) (by decide +kernel))) (hts0 (.methodLink RL 89 yX7_init) (tI (i := 29) (by decide +kernel))) (hts0 (.instanceMethod yX7_init) (tI (i := 30) (by decide +kernel))) rfl (by decide +kernel) ⟨Nat.le_of_ble_eq_true rfl, Nat.le_of_ble_eq_true rfl⟩) hP hD hS hA hE hK hO hl.1 rfl (Nat.le_of_ble_eq_true rfl) dL_law_4 ⟨Nat.le_of_ble_eq_true rfl, Nat.le_of_ble_eq_true rfl⟩ (fun a H locs ha hP hD hS => ?_)
  have ha : a.1 0 = q7 := ha
  have hP : va_P G vwCl (oC T a cc0) H := by rw [← oC_eq]; exact hP
  have hD : va_D (fun q : Nat => s.heap.size ≤ q) (oC T a cc0) := by rw [← oC_eq]; exact hD
  refine lv_astore_n (lv' := [(1, .ref q7), (0, .ref b)]) hx hb dL_law_7 rfl hl (by decide) rfl (fun ls hl => ?_)
  refine va_new (ci := 8) (fs := [.int 0, .null, .null, .int 0, .null, .int 0, .null, .int 0, .int 0, .int 0, .int 0, .int 0, .null, .int 0, .null, .long 0]) (C := RX8) (T := TX8) (N := 16) hx hb hts0 lw_inwsX80 tyX8 tyX8_ok hown (hts0 (.classLink RL 90 RX8) (tI (i := 950) (by decide +kernel))) (hts0 (.instantiable RX8 16) (tI (i := 951) (by decide +kernel))) (hts0 (.initialized RX8) (tI (i := 9) (by decide +kernel))) hK hP hD hS hA rfl (fun j hj => by rcases lt16 j hj with rfl | rfl | rfl | rfl | rfl | rfl | rfl | rfl | rfl | rfl | rfl | rfl | rfl | rfl | rfl | rfl <;> rfl) (Nat.le_of_ble_eq_true rfl) (Nat.le_of_ble_eq_true rfl) dL_law_8 (fun q H hP hD hS => ?_)
  refine lv_dup hx hb dL_law_11 rfl ?_
  refine k_rnI (Wr := oC T a cc0) (rest := [.ref q]) (d := 1) (mc := 6) (ms := 2207) cx (c_X8_init l G T H.size q) (cwI 0 hts hL_X8_init rfl rfl rfl (hts0 (.initialized RX8) (tI (i := 9) (by decide +kernel))) (hts0 (.methodLink RL 92 yX8_init) (tI (i := 952) (by decide +kernel))) (hts0 (.instanceMethod yX8_init) (tI (i := 953) (by decide +kernel))) rfl (by decide +kernel) ⟨Nat.le_of_ble_eq_true rfl, Nat.le_of_ble_eq_true rfl⟩) hP hD hS hA hE hK hO hl.1 rfl (Nat.le_of_ble_eq_true rfl) dL_law_12 ⟨Nat.le_of_ble_eq_true rfl, Nat.le_of_ble_eq_true rfl⟩ (fun q8 H locs hq hP hD hS => ?_)
  have hq : q8 0 = q := hq
  refine lv_astore_n (lv' := [(2, .ref q), (1, .ref q7), (0, .ref b)]) hx hb dL_law_15 rfl hl (by decide) rfl (fun ls hl => ?_)
  refine n_iconst hx hb 1 dL_law_16 (by decide) ?_
  refine n_newa (atype := .long) (ty := .long) hx hb (hts0 (.arrayClass .long) (tI (i := 1379) (by decide +kernel))) rfl 3 rfl hK hP hD hS hA 1 (a0 := (1, .inr (.inl (fun _ => 0)))) (fun _ => rfl) (by decide) (Nat.le_of_ble_eq_true rfl) (Nat.le_of_ble_eq_true rfl) (Nat.le_of_ble_eq_true rfl) dL_law_17 (fun ao H hP hD hS => ?_)
  refine lv_astore_n (lv' := [(3, .ref ao), (2, .ref q), (1, .ref q7), (0, .ref b)]) hx hb dL_law_19 rfl hl (by decide) rfl (fun ls hl => ?_)
  refine n_iconst hx hb 0 dL_law_20 (by decide) ?_
  refine lv_istore (lv' := [(4, .int (nI 0)), (3, .ref ao), (2, .ref q), (1, .ref q7), (0, .ref b)]) hx hb dL_law_21 hl (by decide) rfl (fun ls hl => ?_)
  have hpm : ((oC T a cc0 ++ oX8 T q8 iZX8 0) ++ wO T ao (fun _ => 0)).Perm (lwW T ao (fun _ => 0) a cc0 q8 iZX8 0) := by
    show List.Perm ((oC T a cc0 ++ oX8 T q8 iZX8 0) ++ wO T ao (fun _ => 0)) ((wO T ao (fun _ => 0) ++ oC T a cc0) ++ oX8 T q8 iZX8 0)
    rw [List.append_assoc (wO T ao (fun _ => 0))]
    exact List.perm_append_comm
  rw [← ha, ← hq] at hl
  refine W.widen (k := 125 + 0) (n := 5938 + 6 * 0) (Nat.le_of_ble_eq_true rfl) (Nat.le_of_ble_eq_true rfl) ?_
  exact law_loop E hL hr hlocks (L + 1) 0 H _ ls (Nat.zero_le _) (by omega) ⟨fun _ => 0, cc0, iZX8, 0, hP.perm hpm, hD.perm hpm, hS, JX_0⟩ (lv_sub hl [4, 3, 2, 1, 0] rfl)
