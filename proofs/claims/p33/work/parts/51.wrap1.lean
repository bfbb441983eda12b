/-! the law's wrappers: a call of WhistleTunes, its answer or which exception (printed by wip/p33/swrap.py) -/
def gNn (U : State) : Prop := va_Nc "java/lang/IllegalArgumentException" "java/lang/IndexOutOfBoundsException" U ∧ va_Nc "java/lang/IllegalStateException" "java/lang/IndexOutOfBoundsException" U ∧ va_Nc "java/lang/IllegalStateException" "java/lang/IllegalArgumentException" U
theorem gNn.moved {u U : State} (hvm : u.vm.Alike U.vm) (h : gNn u) : gNn U := ⟨h.1.moved hvm, h.2.1.moved hvm, h.2.2.moved hvm⟩
def RWx (l : Launch) (y : MethodName) (wz : List Cond) (d : Nat) (G : va_G) (T : Nat → ClassId) (sz : Nat) (ws : va_W) (av : List Value) (v : Int32) (w1 : va_W) : Prop := Met l y wz (rmD d 1 6) (va_Pc av (fun U => sX G T sz ws U ∧ gNn U)) (va_Qi (fun (r : Int32) (_ : Unit) => r = v) (fun _ t => sP G (va_A ws sz) w1 t) (va_A ws sz)) 1 6 (va_A ws sz)
theorem sXn_blind {G : va_G} {T : Nat → ClassId} {sz : Nat} {ws : va_W} {av : List Value} : FrameBlind (va_Pc av (fun U => sX G T sz ws U ∧ gNn U)) := by
  rintro a U g mk ⟨h0, h1, h2⟩
  exact ⟨h0, (sX_blind (av := av) a U g mk ⟨h0, h1⟩).2, gNn.moved (u := U) (U := U.calling g mk a) (Vm.Alike.refl U.vm) h2⟩
theorem met_vx {l : Launch} {y : MethodName} {ws : List Cond} {rm : Room} {Pc : Array Value → State → Prop} {Qc : Array Value → State → Outcome → State → Prop} {mc ms : Nat} {free : Addr → Prop} (h : vx_Met l y ws rm Pc Qc (fun _ _ _ => False) mc ms free) : Met l y ws rm Pc Qc mc ms free := by
  unfold vx_Met at h
  unfold Met
  refine Jvm.Free.MetFree.mono h (fun _ _ q => q) (fun _ _ _ _ _ q => q) (fun a s o t _ hq => ?_)
  rcases hq with hq | ⟨q, -, E, ce, L, hX, -⟩
  · exact hq
  · exact hX.elim
section KRX
variable {p : Program} {l : Launch} {e : Env} {R : Room} {s : State} {m : MethodId} {args : Array Value} {below : List Frame} {meth : Method} {c : Code} {H : Heap} {locs : List Loc} {cells slots : Nat} {Q : State → Prop}
variable {y : MethodName} {bytes cc : ByteArray} {maxL nL n index d : Nat} {ret : Option FieldType} {wz Ts : List Cond} {own C : String} {b : Addr} {As rest st0 : List Value} {G : va_G} {T : Nat → ClassId} {A : Nat → Prop} {wc : va_W} {o : Int32 ⊕ String} {pc : Nat} {ls : Array Slot} {W0 wr w1 : va_W}
theorem k_rxV {isC isR : List Nat} (S : CallFix p m c cc nL s args Ts own) (hM : RX l y wz d G T H.size wc (.ref b :: As) o w1) (cw : CallW R s args own C index y bytes maxL ret wz (rmD d 1 6) 1 6 n) (hN : kN G T A s H locs W0 wc wr isC isR) (hC9 : gC s) (hrecv : ∃ cellB : Cell, H[b]? = some cellB ∧ cellB.vm.isStatics = false ∧ s.vm.findClass C = some cellB.cls)
    (hn : As.length = n) (hsz : ls.size = nL) (hst : st0 = As.reverse ++ .ref b :: rest) (hW : (rest.map fun v => v.category).sum ≤ 8) (hdg : decode cc pc = .ok (.invokevirtual index, 3)) (hf : cells + 1 ≤ R.cells ∧ slots + 6 ≤ R.slots)
    (kx : ∀ (E : String) (ce : Cell) (q9 : Addr) (H1 : Heap) (locs1 : List Loc), o = .inr E → va_P G vwCl (wr ++ w1) H1 → va_D A (wr ++ w1) → va_S A s.heap H1 locs1 → H1[q9]? = some ce → ce.vm = .none → s.vm.findClass E = some ce.cls → vx_W p l e R s m args below meth c H1 locs1 (cells + 1) (slots + 6) Q (F0 m pc ls rest) q9)
    (kk : ∀ (v : Int32) (H1 : Heap) (locs1 : List Loc), o = .inl v → va_P G vwCl (wr ++ w1) H1 → va_D A (wr ++ w1) → va_S A s.heap H1 locs1 → W p l e R s m args below meth c H1 locs1 (cells + 1) (slots + 6) Q (F0 m (pc + 3) ls (.int v :: rest))) : W p l e R s m args below meth c H locs cells slots Q (F0 m pc ls st0) := by
  have hpre := hN.pre
  obtain ⟨hP, hD, hS, hA, hE, hK, hC, hnC, hR, hnR, hdis⟩ := hN
  have hF := va_free hD hS hA isC hC
  refine vx_calli (vx_runV S hM cw ⟨sX_blind, hrecv, fun U hU hW1 => ⟨rfl, hpre U hU hW1, hC9.warm hW1⟩⟩ rfl hn hsz hst (lv_room hW) hdg hf) hS (fun q _ h => hF q h) hF (fun q _ h => hF q h) (fun E ce q9 u t H1 locs1 ht hvm hw hB hz hk hS1 h1 h2 h3 => ?_) (fun r u t H1 locs1 ht hvm hw hB hz hk hS1 => ?_)
  · obtain ⟨ho, hP1, hD1⟩ := hB
    rw [ht] at hP1
    obtain ⟨hP2, hD2⟩ := va_join hP hD isC isR hC hR hnR hdis hk hF hP1 hD1
    exact kx E ce q9 H1 locs1 ho hP2 hD2 hS1 h1 h2 h3
  · obtain ⟨hP1, hD1⟩ := hB
    rw [ht] at hP1
    obtain ⟨hP2, hD2⟩ := va_join hP hD isC isR hC hR hnR hdis hk hF hP1 hD1
    exact kk r H1 locs1 hw hP2 hD2 hS1
end KRX
set_option maxHeartbeats 4000000 in
set_option maxRecDepth 100000 in
theorem c_L_latest (l : Launch) (G : va_G) (T : Nat → ClassId) (sz : Nat) (w : Nat → Nat) (q : Nat → Nat) (qz : Nat → Nat) (h : Nat → Nat) (qs : Nat → Nat → Nat) (t : Nat → Nat) (gr : Nat → Nat) (u : Nat → Nat) (tr : Nat → Nat) (oc : Nat → Nat) (Sw : Nat → Nat → Int32) (S : Nat → Nat → Int32) (Z : Nat → Nat → Int32) (Sh : Nat → Nat → Int32) (Hs : Nat → Nat → Nat → Int32) (X : Nat → Nat → Int32) (Gg : Nat → Nat → Int32) (U : Nat → Nat → Int32) (K : Nat → Nat → Int32) (O : Nat → Nat → Int32) (kk : Nat) (hk9 : kk < 6) : RWi l yL_latest wsL_latest 1 0 0 G T sz (oC T (w, q, qz, h, qs, t, gr, u, tr, oc) (Sw, S, Z, Sh, Hs, X, Gg, U, K, O)) [.ref (w 0), .int (nI kk)] (S 15 kk) (oC T (w, q, qz, h, qs, t, gr, u, tr, oc) (Sw, S, Z, Sh, Hs, X, Gg, U, K, O)) := by
  refine met_vx (vx_ofWH (cc := cL_latest) (maxL := 3) (ret := (some .int)) (by decide) rfl ?_)
  intro p e s m args below meth c s₁ B hml hv
  obtain ⟨ha, hsz, hP, hK, hD0, hE0⟩ := hv
  have hx := B.exec
  have hb := B.bytes
  have hr := B.returns
  have hlocks := B.notSynchronized
  have hts := atoms_spec (ws := wsL_latest) B.pre
  have htab := vx_table (x := yL_latest) B (hts (.codeWith yL_latest cL_latest 3 (some .int) [(0, 5, 6, 18)]) List.mem_cons_self)
  have hown : s.vm.findClass RL = some m.cls := findClass_of_methodNamed B.named
  have cx : CallFix p m c cL_latest 3 s args wsL_latest RL := ⟨hx, hb, hml, hown, hts⟩
  subst hsz
  have hD := hD0.self (sz := s.heap.size)
  generalize hAe : va_A (oC T (w, q, qz, h, qs, t, gr, u, tr, oc) (Sw, S, Z, Sh, Hs, X, Gg, U, K, O)) s.heap.size = A at hD hE0 ⊢
  have hE : gE A s s.heap := hE0
  have hA : ∀ q : Nat, s.heap.size ≤ q → A q := fun q h => by rw [← hAe]; exact Or.inr h
  have hS : va_S A s.heap s.heap [] := va_S.rf
  refine w_entry ha (Nat.le_of_ble_eq_true rfl) (fun ls hl => ?_)
  refine w_q (fun Q0 hQ => ?_)
  have hl : lv_has ls 3 [(0, .ref (w 0)), (1, .int (nI kk))] := hl
  refine w_h (fun H locs hHe hLe => ?_)
  have hP : va_P G vwCl (oC T (w, q, qz, h, qs, t, gr, u, tr, oc) (Sw, S, Z, Sh, Hs, X, Gg, U, K, O)) H := by rw [hHe]; exact hP
  have hS : va_S A s.heap H locs := by rw [hHe, hLe]; exact hS
  refine lv_aload_n hx hb dL_latest_0 rfl (lv_at hl 0 rfl) ?_
  refine lv_iload_n hx hb dL_latest_1 rfl (lv_at hl 1 rfl) ?_
  refine k_rwV (As := [.int (nI kk)]) (rest := []) (wc := oC T (w, q, qz, h, qs, t, gr, u, tr, oc) (Sw, S, Z, Sh, Hs, X, Gg, U, K, O)) (wr := []) (w1 := oC T (w, q, qz, h, qs, t, gr, u, tr, oc) (Sw, S, Z, Sh, Hs, X, Gg, U, K, O)) (d := 0) (mc := 0) (ms := 0) (v := S 15 kk) cx (w_X7_latest l G T H.size w q qz h qs t gr u tr oc Sw S Z Sh Hs X Gg U K O kk hk9) (cwV 1 hts gL_latest_X7_latest rfl rfl rfl (by decide +kernel) ⟨Nat.le_of_ble_eq_true rfl, Nat.le_of_ble_eq_true rfl⟩) (kN_full hP hD hS hA hE hK) (va_recv hK hP (ci := 7) (q0 := 0) rfl rfl) rfl hl.1 rfl (Nat.le_of_ble_eq_true rfl) dL_latest_2 ⟨Nat.le_of_ble_eq_true rfl, Nat.le_of_ble_eq_true rfl⟩ (fun H locs hP hD hS hz => ?_)
  have hP : va_P G vwCl (oC T (w, q, qz, h, qs, t, gr, u, tr, oc) (Sw, S, Z, Sh, Hs, X, Gg, U, K, O)) H := hP
  have hD : va_D A (oC T (w, q, qz, h, qs, t, gr, u, tr, oc) (Sw, S, Z, Sh, Hs, X, Gg, U, K, O)) := hD
  subst hQ
  exact vx_ret (e_rwi hx hb hr hlocks hS rfl hP hD dL_latest_5)
set_option maxHeartbeats 4000000 in
set_option maxRecDepth 100000 in
theorem c_L_message (l : Launch) (G : va_G) (T : Nat → ClassId) (sz : Nat) (w : Nat → Nat) (q : Nat → Nat) (qz : Nat → Nat) (h : Nat → Nat) (qs : Nat → Nat → Nat) (t : Nat → Nat) (gr : Nat → Nat) (u : Nat → Nat) (tr : Nat → Nat) (oc : Nat → Nat) (Sw : Nat → Nat → Int32) (S : Nat → Nat → Int32) (Z : Nat → Nat → Int32) (Sh : Nat → Nat → Int32) (Hs : Nat → Nat → Nat → Int32) (X : Nat → Nat → Int32) (Gg : Nat → Nat → Int32) (U : Nat → Nat → Int32) (K : Nat → Nat → Int32) (O : Nat → Nat → Int32) (mm : Nat) (kk : Nat) (hm20 : mm < 20) (hk9 : kk < 4) : RWi l yL_message wsL_message 2 0 0 G T sz (oC T (w, q, qz, h, qs, t, gr, u, tr, oc) (Sw, S, Z, Sh, Hs, X, Gg, U, K, O)) [.ref (w 0), .int (nI mm), .int (nI kk)] (pMsg S mm kk) (oC T (w, q, qz, h, qs, t, gr, u, tr, oc) (Sw, S, Z, Sh, Hs, X, Gg, U, K, O)) := by
  refine met_vx (vx_ofWH (cc := cL_message) (maxL := 4) (ret := (some .int)) (by decide) rfl ?_)
  intro p e s m args below meth c s₁ B hml hv
  obtain ⟨ha, hsz, hP, hK, hD0, hE0⟩ := hv
  have hx := B.exec
  have hb := B.bytes
  have hr := B.returns
  have hlocks := B.notSynchronized
  have hts := atoms_spec (ws := wsL_message) B.pre
  have htab := vx_table (x := yL_message) B (hts (.codeWith yL_message cL_message 4 (some .int) [(0, 6, 7, 16), (0, 6, 11, 18)]) List.mem_cons_self)
  have hown : s.vm.findClass RL = some m.cls := findClass_of_methodNamed B.named
  have cx : CallFix p m c cL_message 4 s args wsL_message RL := ⟨hx, hb, hml, hown, hts⟩
  subst hsz
  have hD := hD0.self (sz := s.heap.size)
  generalize hAe : va_A (oC T (w, q, qz, h, qs, t, gr, u, tr, oc) (Sw, S, Z, Sh, Hs, X, Gg, U, K, O)) s.heap.size = A at hD hE0 ⊢
  have hE : gE A s s.heap := hE0
  have hA : ∀ q : Nat, s.heap.size ≤ q → A q := fun q h => by rw [← hAe]; exact Or.inr h
  have hS : va_S A s.heap s.heap [] := va_S.rf
  refine w_entry ha (Nat.le_of_ble_eq_true rfl) (fun ls hl => ?_)
  refine w_q (fun Q0 hQ => ?_)
  have hl : lv_has ls 4 [(0, .ref (w 0)), (1, .int (nI mm)), (2, .int (nI kk))] := hl
  refine w_h (fun H locs hHe hLe => ?_)
  have hP : va_P G vwCl (oC T (w, q, qz, h, qs, t, gr, u, tr, oc) (Sw, S, Z, Sh, Hs, X, Gg, U, K, O)) H := by rw [hHe]; exact hP
  have hS : va_S A s.heap H locs := by rw [hHe, hLe]; exact hS
  refine lv_aload_n hx hb dL_message_0 rfl (lv_at hl 0 rfl) ?_
  refine lv_iload_n hx hb dL_message_1 rfl (lv_at hl 1 rfl) ?_
  refine lv_iload_n hx hb dL_message_2 rfl (lv_at hl 2 rfl) ?_
  refine k_rwV (As := [.int (nI mm), .int (nI kk)]) (rest := []) (wc := oC T (w, q, qz, h, qs, t, gr, u, tr, oc) (Sw, S, Z, Sh, Hs, X, Gg, U, K, O)) (wr := []) (w1 := oC T (w, q, qz, h, qs, t, gr, u, tr, oc) (Sw, S, Z, Sh, Hs, X, Gg, U, K, O)) (d := 1) (mc := 0) (ms := 0) (v := pMsg S mm kk) cx (w_X7_message l G T H.size w q qz h qs t gr u tr oc Sw S Z Sh Hs X Gg U K O mm kk hm20 hk9) (cwV 2 hts gL_message_X7_message rfl rfl rfl (by decide +kernel) ⟨Nat.le_of_ble_eq_true rfl, Nat.le_of_ble_eq_true rfl⟩) (kN_full hP hD hS hA hE hK) (va_recv hK hP (ci := 7) (q0 := 0) rfl rfl) rfl hl.1 rfl (Nat.le_of_ble_eq_true rfl) dL_message_3 ⟨Nat.le_of_ble_eq_true rfl, Nat.le_of_ble_eq_true rfl⟩ (fun H locs hP hD hS hz => ?_)
  have hP : va_P G vwCl (oC T (w, q, qz, h, qs, t, gr, u, tr, oc) (Sw, S, Z, Sh, Hs, X, Gg, U, K, O)) H := hP
  have hD : va_D A (oC T (w, q, qz, h, qs, t, gr, u, tr, oc) (Sw, S, Z, Sh, Hs, X, Gg, U, K, O)) := hD
  subst hQ
  exact vx_ret (e_rwi hx hb hr hlocks hS rfl hP hD dL_message_6)
set_option maxHeartbeats 4000000 in
set_option maxRecDepth 100000 in
theorem c_L_note (l : Launch) (G : va_G) (T : Nat → ClassId) (sz : Nat) (w : Nat → Nat) (q : Nat → Nat) (qz : Nat → Nat) (h : Nat → Nat) (qs : Nat → Nat → Nat) (t : Nat → Nat) (gr : Nat → Nat) (u : Nat → Nat) (tr : Nat → Nat) (oc : Nat → Nat) (Sw : Nat → Nat → Int32) (S : Nat → Nat → Int32) (Z : Nat → Nat → Int32) (Sh : Nat → Nat → Int32) (Hs : Nat → Nat → Nat → Int32) (X : Nat → Nat → Int32) (Gg : Nat → Nat → Int32) (U : Nat → Nat → Int32) (K : Nat → Nat → Int32) (O : Nat → Nat → Int32) (mm : Nat) (kk : Nat) (hm20 : mm < 20) (hk9 : kk < 8) : RWi l yL_note wsL_note 3 0 0 G T sz (oC T (w, q, qz, h, qs, t, gr, u, tr, oc) (Sw, S, Z, Sh, Hs, X, Gg, U, K, O)) [.ref (w 0), .int (nI mm), .int (nI kk)] (pNote S mm kk) (oC T (w, q, qz, h, qs, t, gr, u, tr, oc) (Sw, S, Z, Sh, Hs, X, Gg, U, K, O)) := by
  refine met_vx (vx_ofWH (cc := cL_note) (maxL := 4) (ret := (some .int)) (by decide) rfl ?_)
  intro p e s m args below meth c s₁ B hml hv
  obtain ⟨ha, hsz, hP, hK, hD0, hE0⟩ := hv
  have hx := B.exec
  have hb := B.bytes
  have hr := B.returns
  have hlocks := B.notSynchronized
  have hts := atoms_spec (ws := wsL_note) B.pre
  have htab := vx_table (x := yL_note) B (hts (.codeWith yL_note cL_note 4 (some .int) [(0, 6, 7, 16), (0, 6, 11, 18)]) List.mem_cons_self)
  have hown : s.vm.findClass RL = some m.cls := findClass_of_methodNamed B.named
  have cx : CallFix p m c cL_note 4 s args wsL_note RL := ⟨hx, hb, hml, hown, hts⟩
  subst hsz
  have hD := hD0.self (sz := s.heap.size)
  generalize hAe : va_A (oC T (w, q, qz, h, qs, t, gr, u, tr, oc) (Sw, S, Z, Sh, Hs, X, Gg, U, K, O)) s.heap.size = A at hD hE0 ⊢
  have hE : gE A s s.heap := hE0
  have hA : ∀ q : Nat, s.heap.size ≤ q → A q := fun q h => by rw [← hAe]; exact Or.inr h
  have hS : va_S A s.heap s.heap [] := va_S.rf
  refine w_entry ha (Nat.le_of_ble_eq_true rfl) (fun ls hl => ?_)
  refine w_q (fun Q0 hQ => ?_)
  have hl : lv_has ls 4 [(0, .ref (w 0)), (1, .int (nI mm)), (2, .int (nI kk))] := hl
  refine w_h (fun H locs hHe hLe => ?_)
  have hP : va_P G vwCl (oC T (w, q, qz, h, qs, t, gr, u, tr, oc) (Sw, S, Z, Sh, Hs, X, Gg, U, K, O)) H := by rw [hHe]; exact hP
  have hS : va_S A s.heap H locs := by rw [hHe, hLe]; exact hS
  refine lv_aload_n hx hb dL_note_0 rfl (lv_at hl 0 rfl) ?_
  refine lv_iload_n hx hb dL_note_1 rfl (lv_at hl 1 rfl) ?_
  refine lv_iload_n hx hb dL_note_2 rfl (lv_at hl 2 rfl) ?_
  refine k_rwV (As := [.int (nI mm), .int (nI kk)]) (rest := []) (wc := oC T (w, q, qz, h, qs, t, gr, u, tr, oc) (Sw, S, Z, Sh, Hs, X, Gg, U, K, O)) (wr := []) (w1 := oC T (w, q, qz, h, qs, t, gr, u, tr, oc) (Sw, S, Z, Sh, Hs, X, Gg, U, K, O)) (d := 2) (mc := 0) (ms := 0) (v := pNote S mm kk) cx (w_X7_note l G T H.size w q qz h qs t gr u tr oc Sw S Z Sh Hs X Gg U K O mm kk hm20 hk9) (cwV 2 hts gL_note_X7_note rfl rfl rfl (by decide +kernel) ⟨Nat.le_of_ble_eq_true rfl, Nat.le_of_ble_eq_true rfl⟩) (kN_full hP hD hS hA hE hK) (va_recv hK hP (ci := 7) (q0 := 0) rfl rfl) rfl hl.1 rfl (Nat.le_of_ble_eq_true rfl) dL_note_3 ⟨Nat.le_of_ble_eq_true rfl, Nat.le_of_ble_eq_true rfl⟩ (fun H locs hP hD hS hz => ?_)
  have hP : va_P G vwCl (oC T (w, q, qz, h, qs, t, gr, u, tr, oc) (Sw, S, Z, Sh, Hs, X, Gg, U, K, O)) H := hP
  have hD : va_D A (oC T (w, q, qz, h, qs, t, gr, u, tr, oc) (Sw, S, Z, Sh, Hs, X, Gg, U, K, O)) := hD
  subst hQ
  exact vx_ret (e_rwi hx hb hr hlocks hS rfl hP hD dL_note_6)
set_option maxHeartbeats 4000000 in
set_option maxRecDepth 100000 in
theorem c_L_room (l : Launch) (G : va_G) (T : Nat → ClassId) (sz : Nat) (w : Nat → Nat) (q : Nat → Nat) (qz : Nat → Nat) (h : Nat → Nat) (qs : Nat → Nat → Nat) (t : Nat → Nat) (gr : Nat → Nat) (u : Nat → Nat) (tr : Nat → Nat) (oc : Nat → Nat) (Sw : Nat → Nat → Int32) (S : Nat → Nat → Int32) (Z : Nat → Nat → Int32) (Sh : Nat → Nat → Int32) (Hs : Nat → Nat → Nat → Int32) (X : Nat → Nat → Int32) (Gg : Nat → Nat → Int32) (U : Nat → Nat → Int32) (K : Nat → Nat → Int32) (O : Nat → Nat → Int32) (rr : Nat) (kk : Nat) (hr6 : rr < 6) (hk9 : kk < 6) : RWi l yL_room wsL_room 3 0 0 G T sz (oC T (w, q, qz, h, qs, t, gr, u, tr, oc) (Sw, S, Z, Sh, Hs, X, Gg, U, K, O)) [.ref (w 0), .int (nI rr), .int (nI kk)] (pRm S rr kk) (oC T (w, q, qz, h, qs, t, gr, u, tr, oc) (Sw, S, Z, Sh, Hs, X, Gg, U, K, O)) := by
  refine met_vx (vx_ofWH (cc := cL_room) (maxL := 4) (ret := (some .int)) (by decide) rfl ?_)
  intro p e s m args below meth c s₁ B hml hv
  obtain ⟨ha, hsz, hP, hK, hD0, hE0⟩ := hv
  have hx := B.exec
  have hb := B.bytes
  have hr := B.returns
  have hlocks := B.notSynchronized
  have hts := atoms_spec (ws := wsL_room) B.pre
  have htab := vx_table (x := yL_room) B (hts (.codeWith yL_room cL_room 4 (some .int) [(0, 6, 7, 16), (0, 6, 11, 18)]) List.mem_cons_self)
  have hown : s.vm.findClass RL = some m.cls := findClass_of_methodNamed B.named
  have cx : CallFix p m c cL_room 4 s args wsL_room RL := ⟨hx, hb, hml, hown, hts⟩
  subst hsz
  have hD := hD0.self (sz := s.heap.size)
  generalize hAe : va_A (oC T (w, q, qz, h, qs, t, gr, u, tr, oc) (Sw, S, Z, Sh, Hs, X, Gg, U, K, O)) s.heap.size = A at hD hE0 ⊢
  have hE : gE A s s.heap := hE0
  have hA : ∀ q : Nat, s.heap.size ≤ q → A q := fun q h => by rw [← hAe]; exact Or.inr h
  have hS : va_S A s.heap s.heap [] := va_S.rf
  refine w_entry ha (Nat.le_of_ble_eq_true rfl) (fun ls hl => ?_)
  refine w_q (fun Q0 hQ => ?_)
  have hl : lv_has ls 4 [(0, .ref (w 0)), (1, .int (nI rr)), (2, .int (nI kk))] := hl
  refine w_h (fun H locs hHe hLe => ?_)
  have hP : va_P G vwCl (oC T (w, q, qz, h, qs, t, gr, u, tr, oc) (Sw, S, Z, Sh, Hs, X, Gg, U, K, O)) H := by rw [hHe]; exact hP
  have hS : va_S A s.heap H locs := by rw [hHe, hLe]; exact hS
  refine lv_aload_n hx hb dL_room_0 rfl (lv_at hl 0 rfl) ?_
  refine lv_iload_n hx hb dL_room_1 rfl (lv_at hl 1 rfl) ?_
  refine lv_iload_n hx hb dL_room_2 rfl (lv_at hl 2 rfl) ?_
  refine k_rwV (As := [.int (nI rr), .int (nI kk)]) (rest := []) (wc := oC T (w, q, qz, h, qs, t, gr, u, tr, oc) (Sw, S, Z, Sh, Hs, X, Gg, U, K, O)) (wr := []) (w1 := oC T (w, q, qz, h, qs, t, gr, u, tr, oc) (Sw, S, Z, Sh, Hs, X, Gg, U, K, O)) (d := 2) (mc := 0) (ms := 0) (v := pRm S rr kk) cx (w_X7_room l G T H.size w q qz h qs t gr u tr oc Sw S Z Sh Hs X Gg U K O rr kk hr6 hk9) (cwV 2 hts gL_room_X7_room rfl rfl rfl (by decide +kernel) ⟨Nat.le_of_ble_eq_true rfl, Nat.le_of_ble_eq_true rfl⟩) (kN_full hP hD hS hA hE hK) (va_recv hK hP (ci := 7) (q0 := 0) rfl rfl) rfl hl.1 rfl (Nat.le_of_ble_eq_true rfl) dL_room_3 ⟨Nat.le_of_ble_eq_true rfl, Nat.le_of_ble_eq_true rfl⟩ (fun H locs hP hD hS hz => ?_)
  have hP : va_P G vwCl (oC T (w, q, qz, h, qs, t, gr, u, tr, oc) (Sw, S, Z, Sh, Hs, X, Gg, U, K, O)) H := hP
  have hD : va_D A (oC T (w, q, qz, h, qs, t, gr, u, tr, oc) (Sw, S, Z, Sh, Hs, X, Gg, U, K, O)) := hD
  subst hQ
  exact vx_ret (e_rwi hx hb hr hlocks hS rfl hP hD dL_room_6)
set_option maxHeartbeats 4000000 in
set_option maxRecDepth 100000 in
theorem c_L_whyNot (l : Launch) (G : va_G) (T : Nat → ClassId) (sz : Nat) (w : Nat → Nat) (q : Nat → Nat) (qz : Nat → Nat) (h : Nat → Nat) (qs : Nat → Nat → Nat) (t : Nat → Nat) (gr : Nat → Nat) (u : Nat → Nat) (tr : Nat → Nat) (oc : Nat → Nat) (Sw : Nat → Nat → Int32) (S : Nat → Nat → Int32) (Z : Nat → Nat → Int32) (Sh : Nat → Nat → Int32) (Hs : Nat → Nat → Nat → Int32) (X : Nat → Nat → Int32) (Gg : Nat → Nat → Int32) (U : Nat → Nat → Int32) (K : Nat → Nat → Int32) (O : Nat → Nat → Int32) (rr : Nat) (mm : Nat) (hr6 : rr < 6) (hm20 : mm < 20) : RWi l yL_whyNot wsL_whyNot 4 0 0 G T sz (oC T (w, q, qz, h, qs, t, gr, u, tr, oc) (Sw, S, Z, Sh, Hs, X, Gg, U, K, O)) [.ref (w 0), .int (nI rr), .int (nI mm)] (pWhy S rr mm) (oC T (w, q, qz, h, qs, t, gr, u, tr, oc) (Sw, S, Z, Sh, Hs, X, Gg, U, K, O)) := by
  refine met_vx (vx_ofWH (cc := cL_whyNot) (maxL := 4) (ret := (some .int)) (by decide) rfl ?_)
  intro p e s m args below meth c s₁ B hml hv
  obtain ⟨ha, hsz, hP, hK, hD0, hE0⟩ := hv
  have hx := B.exec
  have hb := B.bytes
  have hr := B.returns
  have hlocks := B.notSynchronized
  have hts := atoms_spec (ws := wsL_whyNot) B.pre
  have htab := vx_table (x := yL_whyNot) B (hts (.codeWith yL_whyNot cL_whyNot 4 (some .int) [(0, 6, 7, 16)]) List.mem_cons_self)
  have hown : s.vm.findClass RL = some m.cls := findClass_of_methodNamed B.named
  have cx : CallFix p m c cL_whyNot 4 s args wsL_whyNot RL := ⟨hx, hb, hml, hown, hts⟩
  subst hsz
  have hD := hD0.self (sz := s.heap.size)
  generalize hAe : va_A (oC T (w, q, qz, h, qs, t, gr, u, tr, oc) (Sw, S, Z, Sh, Hs, X, Gg, U, K, O)) s.heap.size = A at hD hE0 ⊢
  have hE : gE A s s.heap := hE0
  have hA : ∀ q : Nat, s.heap.size ≤ q → A q := fun q h => by rw [← hAe]; exact Or.inr h
  have hS : va_S A s.heap s.heap [] := va_S.rf
  refine w_entry ha (Nat.le_of_ble_eq_true rfl) (fun ls hl => ?_)
  refine w_q (fun Q0 hQ => ?_)
  have hl : lv_has ls 4 [(0, .ref (w 0)), (1, .int (nI rr)), (2, .int (nI mm))] := hl
  refine w_h (fun H locs hHe hLe => ?_)
  have hP : va_P G vwCl (oC T (w, q, qz, h, qs, t, gr, u, tr, oc) (Sw, S, Z, Sh, Hs, X, Gg, U, K, O)) H := by rw [hHe]; exact hP
  have hS : va_S A s.heap H locs := by rw [hHe, hLe]; exact hS
  refine lv_aload_n hx hb dL_whyNot_0 rfl (lv_at hl 0 rfl) ?_
  refine lv_iload_n hx hb dL_whyNot_1 rfl (lv_at hl 1 rfl) ?_
  refine lv_iload_n hx hb dL_whyNot_2 rfl (lv_at hl 2 rfl) ?_
  refine k_rwV (As := [.int (nI rr), .int (nI mm)]) (rest := []) (wc := oC T (w, q, qz, h, qs, t, gr, u, tr, oc) (Sw, S, Z, Sh, Hs, X, Gg, U, K, O)) (wr := []) (w1 := oC T (w, q, qz, h, qs, t, gr, u, tr, oc) (Sw, S, Z, Sh, Hs, X, Gg, U, K, O)) (d := 3) (mc := 0) (ms := 0) (v := pWhy S rr mm) cx (w_X7_whyNot l G T H.size w q qz h qs t gr u tr oc Sw S Z Sh Hs X Gg U K O rr mm hr6 hm20) (cwV 2 hts gL_whyNot_X7_whyNot rfl rfl rfl (by decide +kernel) ⟨Nat.le_of_ble_eq_true rfl, Nat.le_of_ble_eq_true rfl⟩) (kN_full hP hD hS hA hE hK) (va_recv hK hP (ci := 7) (q0 := 0) rfl rfl) rfl hl.1 rfl (Nat.le_of_ble_eq_true rfl) dL_whyNot_3 ⟨Nat.le_of_ble_eq_true rfl, Nat.le_of_ble_eq_true rfl⟩ (fun H locs hP hD hS hz => ?_)
  have hP : va_P G vwCl (oC T (w, q, qz, h, qs, t, gr, u, tr, oc) (Sw, S, Z, Sh, Hs, X, Gg, U, K, O)) H := hP
  have hD : va_D A (oC T (w, q, qz, h, qs, t, gr, u, tr, oc) (Sw, S, Z, Sh, Hs, X, Gg, U, K, O)) := hD
  subst hQ
  exact vx_ret (e_rwi hx hb hr hlocks hS rfl hP hD dL_whyNot_6)
set_option maxHeartbeats 4000000 in
set_option maxRecDepth 100000 in
theorem c_L_count (l : Launch) (G : va_G) (T : Nat → ClassId) (sz : Nat) (w : Nat → Nat) (q : Nat → Nat) (qz : Nat → Nat) (h : Nat → Nat) (qs : Nat → Nat → Nat) (t : Nat → Nat) (gr : Nat → Nat) (u : Nat → Nat) (tr : Nat → Nat) (oc : Nat → Nat) (Sw : Nat → Nat → Int32) (S : Nat → Nat → Int32) (Z : Nat → Nat → Int32) (Sh : Nat → Nat → Int32) (Hs : Nat → Nat → Nat → Int32) (X : Nat → Nat → Int32) (Gg : Nat → Nat → Int32) (U : Nat → Nat → Int32) (K : Nat → Nat → Int32) (O : Nat → Nat → Int32) (n : Nat) (kk : Nat) (hn : Sh 0 2 = nI n) (hk9 : kk < 14) (hk3 : ¬ kk = 3) : RWi l yL_count wsL_count 3 0 0 G T sz (oC T (w, q, qz, h, qs, t, gr, u, tr, oc) (Sw, S, Z, Sh, Hs, X, Gg, U, K, O)) [.ref (w 0), .int (nI kk)] (pCt S n kk) (oC T (w, q, qz, h, qs, t, gr, u, tr, oc) (Sw, S, Z, Sh, Hs, X, Gg, U, K, O)) := by
  refine met_vx (vx_ofWH (cc := cL_count) (maxL := 3) (ret := (some .int)) (by decide) rfl ?_)
  intro p e s m args below meth c s₁ B hml hv
  obtain ⟨ha, hsz, hP, hK, hD0, hE0⟩ := hv
  have hx := B.exec
  have hb := B.bytes
  have hr := B.returns
  have hlocks := B.notSynchronized
  have hts := atoms_spec (ws := wsL_count) B.pre
  have htab := vx_table (x := yL_count) B (hts (.codeWith yL_count cL_count 3 (some .int) [(0, 5, 6, 18)]) List.mem_cons_self)
  have hown : s.vm.findClass RL = some m.cls := findClass_of_methodNamed B.named
  have cx : CallFix p m c cL_count 3 s args wsL_count RL := ⟨hx, hb, hml, hown, hts⟩
  subst hsz
  have hD := hD0.self (sz := s.heap.size)
  generalize hAe : va_A (oC T (w, q, qz, h, qs, t, gr, u, tr, oc) (Sw, S, Z, Sh, Hs, X, Gg, U, K, O)) s.heap.size = A at hD hE0 ⊢
  have hE : gE A s s.heap := hE0
  have hA : ∀ q : Nat, s.heap.size ≤ q → A q := fun q h => by rw [← hAe]; exact Or.inr h
  have hS : va_S A s.heap s.heap [] := va_S.rf
  refine w_entry ha (Nat.le_of_ble_eq_true rfl) (fun ls hl => ?_)
  refine w_q (fun Q0 hQ => ?_)
  have hl : lv_has ls 3 [(0, .ref (w 0)), (1, .int (nI kk))] := hl
  refine w_h (fun H locs hHe hLe => ?_)
  have hP : va_P G vwCl (oC T (w, q, qz, h, qs, t, gr, u, tr, oc) (Sw, S, Z, Sh, Hs, X, Gg, U, K, O)) H := by rw [hHe]; exact hP
  have hS : va_S A s.heap H locs := by rw [hHe, hLe]; exact hS
  refine lv_aload_n hx hb dL_count_0 rfl (lv_at hl 0 rfl) ?_
  refine lv_iload_n hx hb dL_count_1 rfl (lv_at hl 1 rfl) ?_
  refine k_rwV (As := [.int (nI kk)]) (rest := []) (wc := oC T (w, q, qz, h, qs, t, gr, u, tr, oc) (Sw, S, Z, Sh, Hs, X, Gg, U, K, O)) (wr := []) (w1 := oC T (w, q, qz, h, qs, t, gr, u, tr, oc) (Sw, S, Z, Sh, Hs, X, Gg, U, K, O)) (d := 2) (mc := 0) (ms := 0) (v := pCt S n kk) cx (w_X7_count l G T H.size w q qz h qs t gr u tr oc Sw S Z Sh Hs X Gg U K O n kk hn hk9 hk3) (cwV 1 hts gL_count_X7_count rfl rfl rfl (by decide +kernel) ⟨Nat.le_of_ble_eq_true rfl, Nat.le_of_ble_eq_true rfl⟩) (kN_full hP hD hS hA hE hK) (va_recv hK hP (ci := 7) (q0 := 0) rfl rfl) rfl hl.1 rfl (Nat.le_of_ble_eq_true rfl) dL_count_2 ⟨Nat.le_of_ble_eq_true rfl, Nat.le_of_ble_eq_true rfl⟩ (fun H locs hP hD hS hz => ?_)
  have hP : va_P G vwCl (oC T (w, q, qz, h, qs, t, gr, u, tr, oc) (Sw, S, Z, Sh, Hs, X, Gg, U, K, O)) H := hP
  have hD : va_D A (oC T (w, q, qz, h, qs, t, gr, u, tr, oc) (Sw, S, Z, Sh, Hs, X, Gg, U, K, O)) := hD
  subst hQ
  exact vx_ret (e_rwi hx hb hr hlocks hS rfl hP hD dL_count_5)
set_option maxHeartbeats 4000000 in
set_option maxRecDepth 100000 in
theorem c_L_forget (l : Launch) (G : va_G) (T : Nat → ClassId) (sz : Nat) (w : Nat → Nat) (q : Nat → Nat) (qz : Nat → Nat) (h : Nat → Nat) (qs : Nat → Nat → Nat) (t : Nat → Nat) (gr : Nat → Nat) (u : Nat → Nat) (tr : Nat → Nat) (oc : Nat → Nat) (Sw : Nat → Nat → Int32) (S : Nat → Nat → Int32) (Z : Nat → Nat → Int32) (Sh : Nat → Nat → Int32) (Hs : Nat → Nat → Nat → Int32) (X : Nat → Nat → Int32) (Gg : Nat → Nat → Int32) (U : Nat → Nat → Int32) (K : Nat → Nat → Int32) (O : Nat → Nat → Int32) (o : Nat) (n : Nat) (mm : Nat) (ho : Sh 0 1 = nI o) (hn : Sh 0 2 = nI n) (ho6 : o < 6) (hn6 : n ≤ 6) (hm20 : mm < 20) : RWi l yL_forget wsL_forget 4 0 0 G T sz (oC T (w, q, qz, h, qs, t, gr, u, tr, oc) (Sw, S, Z, Sh, Hs, X, Gg, U, K, O)) [.ref (w 0), .int (nI mm)] (S 6 mm) (oC T (w, q, qz, h, qs, t, gr, u, tr, oc) (Sw, sa S 6 (upd (S 6) mm (nI 0)), Z, sc (sc Sh 1 (nI (hPo o n))) 2 (nI (hPn n)), updS Hs (hPi o n) S, X, Gg, U, K, O)) := by
  refine met_vx (vx_ofWH (cc := cL_forget) (maxL := 3) (ret := (some .int)) (by decide) rfl ?_)
  intro p e s m args below meth c s₁ B hml hv
  obtain ⟨ha, hsz, hP, hK, hD0, hE0⟩ := hv
  have hx := B.exec
  have hb := B.bytes
  have hr := B.returns
  have hlocks := B.notSynchronized
  have hts := atoms_spec (ws := wsL_forget) B.pre
  have htab := vx_table (x := yL_forget) B (hts (.codeWith yL_forget cL_forget 3 (some .int) [(0, 5, 6, 16)]) List.mem_cons_self)
  have hown : s.vm.findClass RL = some m.cls := findClass_of_methodNamed B.named
  have cx : CallFix p m c cL_forget 3 s args wsL_forget RL := ⟨hx, hb, hml, hown, hts⟩
  subst hsz
  have hD := hD0.self (sz := s.heap.size)
  generalize hAe : va_A (oC T (w, q, qz, h, qs, t, gr, u, tr, oc) (Sw, S, Z, Sh, Hs, X, Gg, U, K, O)) s.heap.size = A at hD hE0 ⊢
  have hE : gE A s s.heap := hE0
  have hA : ∀ q : Nat, s.heap.size ≤ q → A q := fun q h => by rw [← hAe]; exact Or.inr h
  have hS : va_S A s.heap s.heap [] := va_S.rf
  refine w_entry ha (Nat.le_of_ble_eq_true rfl) (fun ls hl => ?_)
  refine w_q (fun Q0 hQ => ?_)
  have hl : lv_has ls 3 [(0, .ref (w 0)), (1, .int (nI mm))] := hl
  refine w_h (fun H locs hHe hLe => ?_)
  have hP : va_P G vwCl (oC T (w, q, qz, h, qs, t, gr, u, tr, oc) (Sw, S, Z, Sh, Hs, X, Gg, U, K, O)) H := by rw [hHe]; exact hP
  have hS : va_S A s.heap H locs := by rw [hHe, hLe]; exact hS
  refine lv_aload_n hx hb dL_forget_0 rfl (lv_at hl 0 rfl) ?_
  refine lv_iload_n hx hb dL_forget_1 rfl (lv_at hl 1 rfl) ?_
  refine k_rwV (As := [.int (nI mm)]) (rest := []) (wc := oC T (w, q, qz, h, qs, t, gr, u, tr, oc) (Sw, S, Z, Sh, Hs, X, Gg, U, K, O)) (wr := []) (w1 := oC T (w, q, qz, h, qs, t, gr, u, tr, oc) (Sw, sa S 6 (upd (S 6) mm (nI 0)), Z, sc (sc Sh 1 (nI (hPo o n))) 2 (nI (hPn n)), updS Hs (hPi o n) S, X, Gg, U, K, O)) (d := 3) (mc := 0) (ms := 0) (v := S 6 mm) cx (w_X7_forget l G T H.size w q qz h qs t gr u tr oc Sw S Z Sh Hs X Gg U K O o n mm ho hn ho6 hn6 hm20) (cwV 1 hts gL_forget_X7_forget rfl rfl rfl (by decide +kernel) ⟨Nat.le_of_ble_eq_true rfl, Nat.le_of_ble_eq_true rfl⟩) (kN_full hP hD hS hA hE hK) (va_recv hK hP (ci := 7) (q0 := 0) rfl rfl) rfl hl.1 rfl (Nat.le_of_ble_eq_true rfl) dL_forget_2 ⟨Nat.le_of_ble_eq_true rfl, Nat.le_of_ble_eq_true rfl⟩ (fun H locs hP hD hS hz => ?_)
  have hP : va_P G vwCl (oC T (w, q, qz, h, qs, t, gr, u, tr, oc) (Sw, sa S 6 (upd (S 6) mm (nI 0)), Z, sc (sc Sh 1 (nI (hPo o n))) 2 (nI (hPn n)), updS Hs (hPi o n) S, X, Gg, U, K, O)) H := hP
  have hD : va_D A (oC T (w, q, qz, h, qs, t, gr, u, tr, oc) (Sw, sa S 6 (upd (S 6) mm (nI 0)), Z, sc (sc Sh 1 (nI (hPo o n))) 2 (nI (hPn n)), updS Hs (hPi o n) S, X, Gg, U, K, O)) := hD
  subst hQ
  exact vx_ret (e_rwi hx hb hr hlocks hS rfl hP hD dL_forget_5)
set_option maxHeartbeats 4000000 in
set_option maxRecDepth 100000 in
theorem c_L_key (l : Launch) (G : va_G) (T : Nat → ClassId) (sz : Nat) (w : Nat → Nat) (q : Nat → Nat) (qz : Nat → Nat) (h : Nat → Nat) (qs : Nat → Nat → Nat) (t : Nat → Nat) (gr : Nat → Nat) (u : Nat → Nat) (tr : Nat → Nat) (oc : Nat → Nat) (Sw : Nat → Nat → Int32) (S : Nat → Nat → Int32) (Z : Nat → Nat → Int32) (Sh : Nat → Nat → Int32) (Hs : Nat → Nat → Nat → Int32) (X : Nat → Nat → Int32) (Gg : Nat → Nat → Int32) (U : Nat → Nat → Int32) (K : Nat → Nat → Int32) (O : Nat → Nat → Int32) (o : Nat) (n : Nat) (kk : Nat) (ho : Sh 0 1 = nI o) (hn : Sh 0 2 = nI n) (ho6 : o < 6) (hn6 : n ≤ 6) (hk9 : kk < 7) : RWi l yL_key wsL_key 4 0 0 G T sz (oC T (w, q, qz, h, qs, t, gr, u, tr, oc) (Sw, S, Z, Sh, Hs, X, Gg, U, K, O)) [.ref (w 0), .int (nI kk)] (S 0 1) (oC T (w, q, qz, h, qs, t, gr, u, tr, oc) (Sw, sc S 1 (nI kk), Z, sc (sc Sh 1 (nI (hPo o n))) 2 (nI (hPn n)), updS Hs (hPi o n) S, X, Gg, U, K, O)) := by
  refine met_vx (vx_ofWH (cc := cL_key) (maxL := 3) (ret := (some .int)) (by decide) rfl ?_)
  intro p e s m args below meth c s₁ B hml hv
  obtain ⟨ha, hsz, hP, hK, hD0, hE0⟩ := hv
  have hx := B.exec
  have hb := B.bytes
  have hr := B.returns
  have hlocks := B.notSynchronized
  have hts := atoms_spec (ws := wsL_key) B.pre
  have htab := vx_table (x := yL_key) B (hts (.codeWith yL_key cL_key 3 (some .int) [(0, 5, 6, 18)]) List.mem_cons_self)
  have hown : s.vm.findClass RL = some m.cls := findClass_of_methodNamed B.named
  have cx : CallFix p m c cL_key 3 s args wsL_key RL := ⟨hx, hb, hml, hown, hts⟩
  subst hsz
  have hD := hD0.self (sz := s.heap.size)
  generalize hAe : va_A (oC T (w, q, qz, h, qs, t, gr, u, tr, oc) (Sw, S, Z, Sh, Hs, X, Gg, U, K, O)) s.heap.size = A at hD hE0 ⊢
  have hE : gE A s s.heap := hE0
  have hA : ∀ q : Nat, s.heap.size ≤ q → A q := fun q h => by rw [← hAe]; exact Or.inr h
  have hS : va_S A s.heap s.heap [] := va_S.rf
  refine w_entry ha (Nat.le_of_ble_eq_true rfl) (fun ls hl => ?_)
  refine w_q (fun Q0 hQ => ?_)
  have hl : lv_has ls 3 [(0, .ref (w 0)), (1, .int (nI kk))] := hl
  refine w_h (fun H locs hHe hLe => ?_)
  have hP : va_P G vwCl (oC T (w, q, qz, h, qs, t, gr, u, tr, oc) (Sw, S, Z, Sh, Hs, X, Gg, U, K, O)) H := by rw [hHe]; exact hP
  have hS : va_S A s.heap H locs := by rw [hHe, hLe]; exact hS
  refine lv_aload_n hx hb dL_key_0 rfl (lv_at hl 0 rfl) ?_
  refine lv_iload_n hx hb dL_key_1 rfl (lv_at hl 1 rfl) ?_
  refine k_rwV (As := [.int (nI kk)]) (rest := []) (wc := oC T (w, q, qz, h, qs, t, gr, u, tr, oc) (Sw, S, Z, Sh, Hs, X, Gg, U, K, O)) (wr := []) (w1 := oC T (w, q, qz, h, qs, t, gr, u, tr, oc) (Sw, sc S 1 (nI kk), Z, sc (sc Sh 1 (nI (hPo o n))) 2 (nI (hPn n)), updS Hs (hPi o n) S, X, Gg, U, K, O)) (d := 3) (mc := 0) (ms := 0) (v := S 0 1) cx (w_X7_key l G T H.size w q qz h qs t gr u tr oc Sw S Z Sh Hs X Gg U K O o n kk ho hn ho6 hn6 hk9) (cwV 1 hts gL_key_X7_key rfl rfl rfl (by decide +kernel) ⟨Nat.le_of_ble_eq_true rfl, Nat.le_of_ble_eq_true rfl⟩) (kN_full hP hD hS hA hE hK) (va_recv hK hP (ci := 7) (q0 := 0) rfl rfl) rfl hl.1 rfl (Nat.le_of_ble_eq_true rfl) dL_key_2 ⟨Nat.le_of_ble_eq_true rfl, Nat.le_of_ble_eq_true rfl⟩ (fun H locs hP hD hS hz => ?_)
  have hP : va_P G vwCl (oC T (w, q, qz, h, qs, t, gr, u, tr, oc) (Sw, sc S 1 (nI kk), Z, sc (sc Sh 1 (nI (hPo o n))) 2 (nI (hPn n)), updS Hs (hPi o n) S, X, Gg, U, K, O)) H := hP
  have hD : va_D A (oC T (w, q, qz, h, qs, t, gr, u, tr, oc) (Sw, sc S 1 (nI kk), Z, sc (sc Sh 1 (nI (hPo o n))) 2 (nI (hPn n)), updS Hs (hPi o n) S, X, Gg, U, K, O)) := hD
  subst hQ
  exact vx_ret (e_rwi hx hb hr hlocks hS rfl hP hD dL_key_5)
set_option maxHeartbeats 4000000 in
set_option maxRecDepth 100000 in
theorem c_L_tell (l : Launch) (G : va_G) (T : Nat → ClassId) (sz : Nat) (w : Nat → Nat) (q : Nat → Nat) (qz : Nat → Nat) (h : Nat → Nat) (qs : Nat → Nat → Nat) (t : Nat → Nat) (gr : Nat → Nat) (u : Nat → Nat) (tr : Nat → Nat) (oc : Nat → Nat) (Sw : Nat → Nat → Int32) (S : Nat → Nat → Int32) (Z : Nat → Nat → Int32) (Sh : Nat → Nat → Int32) (Hs : Nat → Nat → Nat → Int32) (X : Nat → Nat → Int32) (Gg : Nat → Nat → Int32) (U : Nat → Nat → Int32) (K : Nat → Nat → Int32) (O : Nat → Nat → Int32) (o : Nat) (n : Nat) (rr : Nat) (ho : Sh 0 1 = nI o) (hn : Sh 0 2 = nI n) (ho6 : o < 6) (hn6 : n ≤ 6) (hr6 : rr < 6) : RWi l yL_tell wsL_tell 4 0 0 G T sz (oC T (w, q, qz, h, qs, t, gr, u, tr, oc) (Sw, S, Z, Sh, Hs, X, Gg, U, K, O)) [.ref (w 0), .int (nI rr)] (S 11 rr) (oC T (w, q, qz, h, qs, t, gr, u, tr, oc) (Sw, sa S 11 (upd (S 11) rr (S 0 1)), Z, sc (sc Sh 1 (nI (hPo o n))) 2 (nI (hPn n)), updS Hs (hPi o n) S, X, Gg, U, K, O)) := by
  refine met_vx (vx_ofWH (cc := cL_tell) (maxL := 3) (ret := (some .int)) (by decide) rfl ?_)
  intro p e s m args below meth c s₁ B hml hv
  obtain ⟨ha, hsz, hP, hK, hD0, hE0⟩ := hv
  have hx := B.exec
  have hb := B.bytes
  have hr := B.returns
  have hlocks := B.notSynchronized
  have hts := atoms_spec (ws := wsL_tell) B.pre
  have htab := vx_table (x := yL_tell) B (hts (.codeWith yL_tell cL_tell 3 (some .int) [(0, 5, 6, 16)]) List.mem_cons_self)
  have hown : s.vm.findClass RL = some m.cls := findClass_of_methodNamed B.named
  have cx : CallFix p m c cL_tell 3 s args wsL_tell RL := ⟨hx, hb, hml, hown, hts⟩
  subst hsz
  have hD := hD0.self (sz := s.heap.size)
  generalize hAe : va_A (oC T (w, q, qz, h, qs, t, gr, u, tr, oc) (Sw, S, Z, Sh, Hs, X, Gg, U, K, O)) s.heap.size = A at hD hE0 ⊢
  have hE : gE A s s.heap := hE0
  have hA : ∀ q : Nat, s.heap.size ≤ q → A q := fun q h => by rw [← hAe]; exact Or.inr h
  have hS : va_S A s.heap s.heap [] := va_S.rf
  refine w_entry ha (Nat.le_of_ble_eq_true rfl) (fun ls hl => ?_)
  refine w_q (fun Q0 hQ => ?_)
  have hl : lv_has ls 3 [(0, .ref (w 0)), (1, .int (nI rr))] := hl
  refine w_h (fun H locs hHe hLe => ?_)
  have hP : va_P G vwCl (oC T (w, q, qz, h, qs, t, gr, u, tr, oc) (Sw, S, Z, Sh, Hs, X, Gg, U, K, O)) H := by rw [hHe]; exact hP
  have hS : va_S A s.heap H locs := by rw [hHe, hLe]; exact hS
  refine lv_aload_n hx hb dL_tell_0 rfl (lv_at hl 0 rfl) ?_
  refine lv_iload_n hx hb dL_tell_1 rfl (lv_at hl 1 rfl) ?_
  refine k_rwV (As := [.int (nI rr)]) (rest := []) (wc := oC T (w, q, qz, h, qs, t, gr, u, tr, oc) (Sw, S, Z, Sh, Hs, X, Gg, U, K, O)) (wr := []) (w1 := oC T (w, q, qz, h, qs, t, gr, u, tr, oc) (Sw, sa S 11 (upd (S 11) rr (S 0 1)), Z, sc (sc Sh 1 (nI (hPo o n))) 2 (nI (hPn n)), updS Hs (hPi o n) S, X, Gg, U, K, O)) (d := 3) (mc := 0) (ms := 0) (v := S 11 rr) cx (w_X7_tell l G T H.size w q qz h qs t gr u tr oc Sw S Z Sh Hs X Gg U K O o n rr ho hn ho6 hn6 hr6) (cwV 1 hts gL_tell_X7_tell rfl rfl rfl (by decide +kernel) ⟨Nat.le_of_ble_eq_true rfl, Nat.le_of_ble_eq_true rfl⟩) (kN_full hP hD hS hA hE hK) (va_recv hK hP (ci := 7) (q0 := 0) rfl rfl) rfl hl.1 rfl (Nat.le_of_ble_eq_true rfl) dL_tell_2 ⟨Nat.le_of_ble_eq_true rfl, Nat.le_of_ble_eq_true rfl⟩ (fun H locs hP hD hS hz => ?_)
  have hP : va_P G vwCl (oC T (w, q, qz, h, qs, t, gr, u, tr, oc) (Sw, sa S 11 (upd (S 11) rr (S 0 1)), Z, sc (sc Sh 1 (nI (hPo o n))) 2 (nI (hPn n)), updS Hs (hPi o n) S, X, Gg, U, K, O)) H := hP
  have hD : va_D A (oC T (w, q, qz, h, qs, t, gr, u, tr, oc) (Sw, sa S 11 (upd (S 11) rr (S 0 1)), Z, sc (sc Sh 1 (nI (hPo o n))) 2 (nI (hPn n)), updS Hs (hPi o n) S, X, Gg, U, K, O)) := hD
  subst hQ
  exact vx_ret (e_rwi hx hb hr hlocks hS rfl hP hD dL_tell_5)
set_option maxHeartbeats 4000000 in
set_option maxRecDepth 100000 in
theorem c_L_lookout (l : Launch) (G : va_G) (T : Nat → ClassId) (sz : Nat) (w : Nat → Nat) (q : Nat → Nat) (qz : Nat → Nat) (h : Nat → Nat) (qs : Nat → Nat → Nat) (t : Nat → Nat) (gr : Nat → Nat) (u : Nat → Nat) (tr : Nat → Nat) (oc : Nat → Nat) (Sw : Nat → Nat → Int32) (S : Nat → Nat → Int32) (Z : Nat → Nat → Int32) (Sh : Nat → Nat → Int32) (Hs : Nat → Nat → Nat → Int32) (X : Nat → Nat → Int32) (Gg : Nat → Nat → Int32) (U : Nat → Nat → Int32) (K : Nat → Nat → Int32) (O : Nat → Nat → Int32) (o : Nat) (n : Nat) (ff : Nat) (bb : Bool) (ho : Sh 0 1 = nI o) (hn : Sh 0 2 = nI n) (ho6 : o < 6) (hn6 : n ≤ 6) (hf3 : ff < 3) : RWi l yL_lookout wsL_lookout 4 0 0 G T sz (oC T (w, q, qz, h, qs, t, gr, u, tr, oc) (Sw, S, Z, Sh, Hs, X, Gg, U, K, O)) [.ref (w 0), .int (nI ff), .int (bI bb)] (pBC (pLk S ff bb)) (oC T (w, q, qz, h, qs, t, gr, u, tr, oc) (Sw, sc S 2 (pLk S ff bb), Z, sc (sc Sh 1 (nI (hPo o n))) 2 (nI (hPn n)), updS Hs (hPi o n) S, X, Gg, U, K, O)) := by
  refine met_vx (vx_ofWH (cc := cL_lookout) (maxL := 4) (ret := (some .int)) (by decide) rfl ?_)
  intro p e s m args below meth c s₁ B hml hv
  obtain ⟨ha, hsz, hP, hK, hD0, hE0⟩ := hv
  have hx := B.exec
  have hb := B.bytes
  have hr := B.returns
  have hlocks := B.notSynchronized
  have hts := atoms_spec (ws := wsL_lookout) B.pre
  have htab := vx_table (x := yL_lookout) B (hts (.codeWith yL_lookout cL_lookout 4 (some .int) [(0, 6, 7, 16)]) List.mem_cons_self)
  have hown : s.vm.findClass RL = some m.cls := findClass_of_methodNamed B.named
  have cx : CallFix p m c cL_lookout 4 s args wsL_lookout RL := ⟨hx, hb, hml, hown, hts⟩
  subst hsz
  have hD := hD0.self (sz := s.heap.size)
  generalize hAe : va_A (oC T (w, q, qz, h, qs, t, gr, u, tr, oc) (Sw, S, Z, Sh, Hs, X, Gg, U, K, O)) s.heap.size = A at hD hE0 ⊢
  have hE : gE A s s.heap := hE0
  have hA : ∀ q : Nat, s.heap.size ≤ q → A q := fun q h => by rw [← hAe]; exact Or.inr h
  have hS : va_S A s.heap s.heap [] := va_S.rf
  refine w_entry ha (Nat.le_of_ble_eq_true rfl) (fun ls hl => ?_)
  refine w_q (fun Q0 hQ => ?_)
  have hl : lv_has ls 4 [(0, .ref (w 0)), (1, .int (nI ff)), (2, .int (bI bb))] := hl
  refine w_h (fun H locs hHe hLe => ?_)
  have hP : va_P G vwCl (oC T (w, q, qz, h, qs, t, gr, u, tr, oc) (Sw, S, Z, Sh, Hs, X, Gg, U, K, O)) H := by rw [hHe]; exact hP
  have hS : va_S A s.heap H locs := by rw [hHe, hLe]; exact hS
  refine lv_aload_n hx hb dL_lookout_0 rfl (lv_at hl 0 rfl) ?_
  refine lv_iload_n hx hb dL_lookout_1 rfl (lv_at hl 1 rfl) ?_
  refine lv_iload_n hx hb dL_lookout_2 rfl (lv_at hl 2 rfl) ?_
  refine k_rwV (As := [.int (nI ff), .int (bI bb)]) (rest := []) (wc := oC T (w, q, qz, h, qs, t, gr, u, tr, oc) (Sw, S, Z, Sh, Hs, X, Gg, U, K, O)) (wr := []) (w1 := oC T (w, q, qz, h, qs, t, gr, u, tr, oc) (Sw, sc S 2 (pLk S ff bb), Z, sc (sc Sh 1 (nI (hPo o n))) 2 (nI (hPn n)), updS Hs (hPi o n) S, X, Gg, U, K, O)) (d := 3) (mc := 0) (ms := 0) (v := pBC (pLk S ff bb)) cx (w_X7_lookout l G T H.size w q qz h qs t gr u tr oc Sw S Z Sh Hs X Gg U K O o n ff bb ho hn ho6 hn6 hf3) (cwV 2 hts gL_lookout_X7_lookout rfl rfl rfl (by decide +kernel) ⟨Nat.le_of_ble_eq_true rfl, Nat.le_of_ble_eq_true rfl⟩) (kN_full hP hD hS hA hE hK) (va_recv hK hP (ci := 7) (q0 := 0) rfl rfl) rfl hl.1 rfl (Nat.le_of_ble_eq_true rfl) dL_lookout_3 ⟨Nat.le_of_ble_eq_true rfl, Nat.le_of_ble_eq_true rfl⟩ (fun H locs hP hD hS hz => ?_)
  have hP : va_P G vwCl (oC T (w, q, qz, h, qs, t, gr, u, tr, oc) (Sw, sc S 2 (pLk S ff bb), Z, sc (sc Sh 1 (nI (hPo o n))) 2 (nI (hPn n)), updS Hs (hPi o n) S, X, Gg, U, K, O)) H := hP
  have hD : va_D A (oC T (w, q, qz, h, qs, t, gr, u, tr, oc) (Sw, sc S 2 (pLk S ff bb), Z, sc (sc Sh 1 (nI (hPo o n))) 2 (nI (hPn n)), updS Hs (hPi o n) S, X, Gg, U, K, O)) := hD
  subst hQ
  exact vx_ret (e_rwi hx hb hr hlocks hS rfl hP hD dL_lookout_6)
set_option maxHeartbeats 4000000 in
set_option maxRecDepth 100000 in
theorem c_L_ban (l : Launch) (G : va_G) (T : Nat → ClassId) (sz : Nat) (w : Nat → Nat) (q : Nat → Nat) (qz : Nat → Nat) (h : Nat → Nat) (qs : Nat → Nat → Nat) (t : Nat → Nat) (gr : Nat → Nat) (u : Nat → Nat) (tr : Nat → Nat) (oc : Nat → Nat) (Sw : Nat → Nat → Int32) (S : Nat → Nat → Int32) (Z : Nat → Nat → Int32) (Sh : Nat → Nat → Int32) (Hs : Nat → Nat → Nat → Int32) (X : Nat → Nat → Int32) (Gg : Nat → Nat → Int32) (U : Nat → Nat → Int32) (K : Nat → Nat → Int32) (O : Nat → Nat → Int32) (o : Nat) (n : Nat) (ff : Nat) (mm : Nat) (ho : Sh 0 1 = nI o) (hn : Sh 0 2 = nI n) (ho6 : o < 6) (hn6 : n ≤ 6) (hf3 : ff < 3) (hm20 : mm < 20) : RWi l yL_ban wsL_ban 4 0 0 G T sz (oC T (w, q, qz, h, qs, t, gr, u, tr, oc) (Sw, S, Z, Sh, Hs, X, Gg, U, K, O)) [.ref (w 0), .int (nI ff), .int (nI mm)] (bI (pHB (S 8 mm ^^^ iShl (nI 1) (nI ff)) (nI ff))) (oC T (w, q, qz, h, qs, t, gr, u, tr, oc) (Sw, sa S 8 (upd (S 8) mm (S 8 mm ^^^ iShl (nI 1) (nI ff))), Z, sc (sc Sh 1 (nI (hPo o n))) 2 (nI (hPn n)), updS Hs (hPi o n) S, X, Gg, U, K, O)) := by
  refine met_vx (vx_ofWH (cc := cL_ban) (maxL := 4) (ret := (some .int)) (by decide) rfl ?_)
  intro p e s m args below meth c s₁ B hml hv
  obtain ⟨ha, hsz, hP, hK, hD0, hE0⟩ := hv
  have hx := B.exec
  have hb := B.bytes
  have hr := B.returns
  have hlocks := B.notSynchronized
  have hts := atoms_spec (ws := wsL_ban) B.pre
  have htab := vx_table (x := yL_ban) B (hts (.codeWith yL_ban cL_ban 4 (some .int) [(0, 6, 7, 16)]) List.mem_cons_self)
  have hown : s.vm.findClass RL = some m.cls := findClass_of_methodNamed B.named
  have cx : CallFix p m c cL_ban 4 s args wsL_ban RL := ⟨hx, hb, hml, hown, hts⟩
  subst hsz
  have hD := hD0.self (sz := s.heap.size)
  generalize hAe : va_A (oC T (w, q, qz, h, qs, t, gr, u, tr, oc) (Sw, S, Z, Sh, Hs, X, Gg, U, K, O)) s.heap.size = A at hD hE0 ⊢
  have hE : gE A s s.heap := hE0
  have hA : ∀ q : Nat, s.heap.size ≤ q → A q := fun q h => by rw [← hAe]; exact Or.inr h
  have hS : va_S A s.heap s.heap [] := va_S.rf
  refine w_entry ha (Nat.le_of_ble_eq_true rfl) (fun ls hl => ?_)
  refine w_q (fun Q0 hQ => ?_)
  have hl : lv_has ls 4 [(0, .ref (w 0)), (1, .int (nI ff)), (2, .int (nI mm))] := hl
  refine w_h (fun H locs hHe hLe => ?_)
  have hP : va_P G vwCl (oC T (w, q, qz, h, qs, t, gr, u, tr, oc) (Sw, S, Z, Sh, Hs, X, Gg, U, K, O)) H := by rw [hHe]; exact hP
  have hS : va_S A s.heap H locs := by rw [hHe, hLe]; exact hS
  refine lv_aload_n hx hb dL_ban_0 rfl (lv_at hl 0 rfl) ?_
  refine lv_iload_n hx hb dL_ban_1 rfl (lv_at hl 1 rfl) ?_
  refine lv_iload_n hx hb dL_ban_2 rfl (lv_at hl 2 rfl) ?_
  refine k_rwV (As := [.int (nI ff), .int (nI mm)]) (rest := []) (wc := oC T (w, q, qz, h, qs, t, gr, u, tr, oc) (Sw, S, Z, Sh, Hs, X, Gg, U, K, O)) (wr := []) (w1 := oC T (w, q, qz, h, qs, t, gr, u, tr, oc) (Sw, sa S 8 (upd (S 8) mm (S 8 mm ^^^ iShl (nI 1) (nI ff))), Z, sc (sc Sh 1 (nI (hPo o n))) 2 (nI (hPn n)), updS Hs (hPi o n) S, X, Gg, U, K, O)) (d := 3) (mc := 0) (ms := 0) (v := bI (pHB (S 8 mm ^^^ iShl (nI 1) (nI ff)) (nI ff))) cx (w_X7_ban l G T H.size w q qz h qs t gr u tr oc Sw S Z Sh Hs X Gg U K O o n ff mm ho hn ho6 hn6 hf3 hm20) (cwV 2 hts gL_ban_X7_ban rfl rfl rfl (by decide +kernel) ⟨Nat.le_of_ble_eq_true rfl, Nat.le_of_ble_eq_true rfl⟩) (kN_full hP hD hS hA hE hK) (va_recv hK hP (ci := 7) (q0 := 0) rfl rfl) rfl hl.1 rfl (Nat.le_of_ble_eq_true rfl) dL_ban_3 ⟨Nat.le_of_ble_eq_true rfl, Nat.le_of_ble_eq_true rfl⟩ (fun H locs hP hD hS hz => ?_)
  have hP : va_P G vwCl (oC T (w, q, qz, h, qs, t, gr, u, tr, oc) (Sw, sa S 8 (upd (S 8) mm (S 8 mm ^^^ iShl (nI 1) (nI ff))), Z, sc (sc Sh 1 (nI (hPo o n))) 2 (nI (hPn n)), updS Hs (hPi o n) S, X, Gg, U, K, O)) H := hP
  have hD : va_D A (oC T (w, q, qz, h, qs, t, gr, u, tr, oc) (Sw, sa S 8 (upd (S 8) mm (S 8 mm ^^^ iShl (nI 1) (nI ff))), Z, sc (sc Sh 1 (nI (hPo o n))) 2 (nI (hPn n)), updS Hs (hPi o n) S, X, Gg, U, K, O)) := hD
  subst hQ
  exact vx_ret (e_rwi hx hb hr hlocks hS rfl hP hD dL_ban_6)
set_option maxHeartbeats 4000000 in
set_option maxRecDepth 100000 in
theorem c_L_set (l : Launch) (G : va_G) (T : Nat → ClassId) (sz : Nat) (w : Nat → Nat) (q : Nat → Nat) (qz : Nat → Nat) (h : Nat → Nat) (qs : Nat → Nat → Nat) (t : Nat → Nat) (gr : Nat → Nat) (u : Nat → Nat) (tr : Nat → Nat) (oc : Nat → Nat) (Sw : Nat → Nat → Int32) (S : Nat → Nat → Int32) (Z : Nat → Nat → Int32) (Sh : Nat → Nat → Int32) (Hs : Nat → Nat → Nat → Int32) (X : Nat → Nat → Int32) (Gg : Nat → Nat → Int32) (U : Nat → Nat → Int32) (K : Nat → Nat → Int32) (O : Nat → Nat → Int32) (o : Nat) (n : Nat) (ii : Nat) (y : Int32) (ho : Sh 0 1 = nI o) (hn : Sh 0 2 = nI n) (ho6 : o < 6) (hn6 : n ≤ 6) (hi2 : ii < 2) (hv9 : pVO (nI ii) y = true) : RWi l yL_set wsL_set 4 0 0 G T sz (oC T (w, q, qz, h, qs, t, gr, u, tr, oc) (Sw, S, Z, Sh, Hs, X, Gg, U, K, O)) [.ref (w 0), .int (nI ii), .int y] (S 5 ii) (oC T (w, q, qz, h, qs, t, gr, u, tr, oc) (Sw, sa S 5 (upd (S 5) ii y), Z, sc (sc Sh 1 (nI (hPo o n))) 2 (nI (hPn n)), updS Hs (hPi o n) S, X, Gg, U, K, O)) := by
  refine met_vx (vx_ofWH (cc := cL_set) (maxL := 4) (ret := (some .int)) (by decide) rfl ?_)
  intro p e s m args below meth c s₁ B hml hv
  obtain ⟨ha, hsz, hP, hK, hD0, hE0⟩ := hv
  have hx := B.exec
  have hb := B.bytes
  have hr := B.returns
  have hlocks := B.notSynchronized
  have hts := atoms_spec (ws := wsL_set) B.pre
  have htab := vx_table (x := yL_set) B (hts (.codeWith yL_set cL_set 4 (some .int) [(0, 6, 7, 16), (0, 6, 11, 18)]) List.mem_cons_self)
  have hown : s.vm.findClass RL = some m.cls := findClass_of_methodNamed B.named
  have cx : CallFix p m c cL_set 4 s args wsL_set RL := ⟨hx, hb, hml, hown, hts⟩
  subst hsz
  have hD := hD0.self (sz := s.heap.size)
  generalize hAe : va_A (oC T (w, q, qz, h, qs, t, gr, u, tr, oc) (Sw, S, Z, Sh, Hs, X, Gg, U, K, O)) s.heap.size = A at hD hE0 ⊢
  have hE : gE A s s.heap := hE0
  have hA : ∀ q : Nat, s.heap.size ≤ q → A q := fun q h => by rw [← hAe]; exact Or.inr h
  have hS : va_S A s.heap s.heap [] := va_S.rf
  refine w_entry ha (Nat.le_of_ble_eq_true rfl) (fun ls hl => ?_)
  refine w_q (fun Q0 hQ => ?_)
  have hl : lv_has ls 4 [(0, .ref (w 0)), (1, .int (nI ii)), (2, .int y)] := hl
  refine w_h (fun H locs hHe hLe => ?_)
  have hP : va_P G vwCl (oC T (w, q, qz, h, qs, t, gr, u, tr, oc) (Sw, S, Z, Sh, Hs, X, Gg, U, K, O)) H := by rw [hHe]; exact hP
  have hS : va_S A s.heap H locs := by rw [hHe, hLe]; exact hS
  refine lv_aload_n hx hb dL_set_0 rfl (lv_at hl 0 rfl) ?_
  refine lv_iload_n hx hb dL_set_1 rfl (lv_at hl 1 rfl) ?_
  refine lv_iload_n hx hb dL_set_2 rfl (lv_at hl 2 rfl) ?_
  refine k_rwV (As := [.int (nI ii), .int y]) (rest := []) (wc := oC T (w, q, qz, h, qs, t, gr, u, tr, oc) (Sw, S, Z, Sh, Hs, X, Gg, U, K, O)) (wr := []) (w1 := oC T (w, q, qz, h, qs, t, gr, u, tr, oc) (Sw, sa S 5 (upd (S 5) ii y), Z, sc (sc Sh 1 (nI (hPo o n))) 2 (nI (hPn n)), updS Hs (hPi o n) S, X, Gg, U, K, O)) (d := 3) (mc := 0) (ms := 0) (v := S 5 ii) cx (w_X7_set l G T H.size w q qz h qs t gr u tr oc Sw S Z Sh Hs X Gg U K O o n ii y ho hn ho6 hn6 hi2 hv9) (cwV 2 hts gL_set_X7_set rfl rfl rfl (by decide +kernel) ⟨Nat.le_of_ble_eq_true rfl, Nat.le_of_ble_eq_true rfl⟩) (kN_full hP hD hS hA hE hK) (va_recv hK hP (ci := 7) (q0 := 0) rfl rfl) rfl hl.1 rfl (Nat.le_of_ble_eq_true rfl) dL_set_3 ⟨Nat.le_of_ble_eq_true rfl, Nat.le_of_ble_eq_true rfl⟩ (fun H locs hP hD hS hz => ?_)
  have hP : va_P G vwCl (oC T (w, q, qz, h, qs, t, gr, u, tr, oc) (Sw, sa S 5 (upd (S 5) ii y), Z, sc (sc Sh 1 (nI (hPo o n))) 2 (nI (hPn n)), updS Hs (hPi o n) S, X, Gg, U, K, O)) H := hP
  have hD : va_D A (oC T (w, q, qz, h, qs, t, gr, u, tr, oc) (Sw, sa S 5 (upd (S 5) ii y), Z, sc (sc Sh 1 (nI (hPo o n))) 2 (nI (hPn n)), updS Hs (hPi o n) S, X, Gg, U, K, O)) := hD
  subst hQ
  exact vx_ret (e_rwi hx hb hr hlocks hS rfl hP hD dL_set_6)
set_option maxHeartbeats 4000000 in
set_option maxRecDepth 100000 in
theorem c_L_whistle (l : Launch) (G : va_G) (T : Nat → ClassId) (sz : Nat) (w : Nat → Nat) (q : Nat → Nat) (qz : Nat → Nat) (h : Nat → Nat) (qs : Nat → Nat → Nat) (t : Nat → Nat) (gr : Nat → Nat) (u : Nat → Nat) (tr : Nat → Nat) (oc : Nat → Nat) (Sw : Nat → Nat → Int32) (S : Nat → Nat → Int32) (Z : Nat → Nat → Int32) (Sh : Nat → Nat → Int32) (Hs : Nat → Nat → Nat → Int32) (X : Nat → Nat → Int32) (Gg : Nat → Nat → Int32) (U : Nat → Nat → Int32) (K : Nat → Nat → Int32) (O : Nat → Nat → Int32) (o : Nat) (n : Nat) (rr : Nat) (mm : Nat) (ho : Sh 0 1 = nI o) (hn : Sh 0 2 = nI n) (ho6 : o < 6) (hn6 : n ≤ 6) (hr6 : rr < 6) (hm20 : mm < 20) (hwhy : pWhy S rr mm = 0) : RWi l yL_whistle wsL_whistle 7 0 0 G T sz (oC T (w, q, qz, h, qs, t, gr, u, tr, oc) (Sw, S, Z, Sh, Hs, X, Gg, U, K, O)) [.ref (w 0), .int (nI rr), .int (nI mm)] (pBC (pUn S rr)) (oC T (w, q, qz, h, qs, t, gr, u, tr, oc) (Sw, pRem S (pFor O S rr mm) rr mm, Z, sc (sc Sh 1 (nI (hPo o n))) 2 (nI (hPn n)), updS Hs (hPi o n) S, X, Gg, U, K, pFor O S rr mm)) := by
  refine met_vx (vx_ofWH (cc := cL_whistle) (maxL := 4) (ret := (some .int)) (by decide) rfl ?_)
  intro p e s m args below meth c s₁ B hml hv
  obtain ⟨ha, hsz, hP, hK, hD0, hE0⟩ := hv
  have hx := B.exec
  have hb := B.bytes
  have hr := B.returns
  have hlocks := B.notSynchronized
  have hts := atoms_spec (ws := wsL_whistle) B.pre
  have htab := vx_table (x := yL_whistle) B (hts (.codeWith yL_whistle cL_whistle 4 (some .int) [(0, 6, 7, 16), (0, 6, 11, 20)]) List.mem_cons_self)
  have hown : s.vm.findClass RL = some m.cls := findClass_of_methodNamed B.named
  have cx : CallFix p m c cL_whistle 4 s args wsL_whistle RL := ⟨hx, hb, hml, hown, hts⟩
  subst hsz
  have hD := hD0.self (sz := s.heap.size)
  generalize hAe : va_A (oC T (w, q, qz, h, qs, t, gr, u, tr, oc) (Sw, S, Z, Sh, Hs, X, Gg, U, K, O)) s.heap.size = A at hD hE0 ⊢
  have hE : gE A s s.heap := hE0
  have hA : ∀ q : Nat, s.heap.size ≤ q → A q := fun q h => by rw [← hAe]; exact Or.inr h
  have hS : va_S A s.heap s.heap [] := va_S.rf
  refine w_entry ha (Nat.le_of_ble_eq_true rfl) (fun ls hl => ?_)
  refine w_q (fun Q0 hQ => ?_)
  have hl : lv_has ls 4 [(0, .ref (w 0)), (1, .int (nI rr)), (2, .int (nI mm))] := hl
  refine w_h (fun H locs hHe hLe => ?_)
  have hP : va_P G vwCl (oC T (w, q, qz, h, qs, t, gr, u, tr, oc) (Sw, S, Z, Sh, Hs, X, Gg, U, K, O)) H := by rw [hHe]; exact hP
  have hS : va_S A s.heap H locs := by rw [hHe, hLe]; exact hS
  refine lv_aload_n hx hb dL_whistle_0 rfl (lv_at hl 0 rfl) ?_
  refine lv_iload_n hx hb dL_whistle_1 rfl (lv_at hl 1 rfl) ?_
  refine lv_iload_n hx hb dL_whistle_2 rfl (lv_at hl 2 rfl) ?_
  refine k_rwV (As := [.int (nI rr), .int (nI mm)]) (rest := []) (wc := oC T (w, q, qz, h, qs, t, gr, u, tr, oc) (Sw, S, Z, Sh, Hs, X, Gg, U, K, O)) (wr := []) (w1 := oC T (w, q, qz, h, qs, t, gr, u, tr, oc) (Sw, pRem S (pFor O S rr mm) rr mm, Z, sc (sc Sh 1 (nI (hPo o n))) 2 (nI (hPn n)), updS Hs (hPi o n) S, X, Gg, U, K, pFor O S rr mm)) (d := 6) (mc := 0) (ms := 0) (v := pBC (pUn S rr)) cx (w_X7_whistle l G T H.size w q qz h qs t gr u tr oc Sw S Z Sh Hs X Gg U K O o n rr mm ho hn ho6 hn6 hr6 hm20 hwhy) (cwV 2 hts gL_whistle_X7_whistle rfl rfl rfl (by decide +kernel) ⟨Nat.le_of_ble_eq_true rfl, Nat.le_of_ble_eq_true rfl⟩) (kN_full hP hD hS hA hE hK) (va_recv hK hP (ci := 7) (q0 := 0) rfl rfl) rfl hl.1 rfl (Nat.le_of_ble_eq_true rfl) dL_whistle_3 ⟨Nat.le_of_ble_eq_true rfl, Nat.le_of_ble_eq_true rfl⟩ (fun H locs hP hD hS hz => ?_)
  have hP : va_P G vwCl (oC T (w, q, qz, h, qs, t, gr, u, tr, oc) (Sw, pRem S (pFor O S rr mm) rr mm, Z, sc (sc Sh 1 (nI (hPo o n))) 2 (nI (hPn n)), updS Hs (hPi o n) S, X, Gg, U, K, pFor O S rr mm)) H := hP
  have hD : va_D A (oC T (w, q, qz, h, qs, t, gr, u, tr, oc) (Sw, pRem S (pFor O S rr mm) rr mm, Z, sc (sc Sh 1 (nI (hPo o n))) 2 (nI (hPn n)), updS Hs (hPi o n) S, X, Gg, U, K, pFor O S rr mm)) := hD
  subst hQ
  exact vx_ret (e_rwi hx hb hr hlocks hS rfl hP hD dL_whistle_6)
set_option maxHeartbeats 4000000 in
set_option maxRecDepth 100000 in
theorem c_L_whistle_t3 (l : Launch) (hst : l.stackTraces = false) (G : va_G) (T : Nat → ClassId) (sz : Nat) (w : Nat → Nat) (q : Nat → Nat) (qz : Nat → Nat) (h : Nat → Nat) (qs : Nat → Nat → Nat) (t : Nat → Nat) (gr : Nat → Nat) (u : Nat → Nat) (tr : Nat → Nat) (oc : Nat → Nat) (Sw : Nat → Nat → Int32) (S : Nat → Nat → Int32) (Z : Nat → Nat → Int32) (Sh : Nat → Nat → Int32) (Hs : Nat → Nat → Nat → Int32) (X : Nat → Nat → Int32) (Gg : Nat → Nat → Int32) (U : Nat → Nat → Int32) (K : Nat → Nat → Int32) (O : Nat → Nat → Int32) (rr : Nat) (mm : Nat) (hr6 : rr < 6) (hm20 : mm < 20) (hwhy : ¬ pWhy S rr mm = 0) : RWx l yL_whistle wsL_whistle 8 G T sz (oC T (w, q, qz, h, qs, t, gr, u, tr, oc) (Sw, S, Z, Sh, Hs, X, Gg, U, K, O)) [.ref (w 0), .int (nI rr), .int (nI mm)] (-103) (oC T (w, q, qz, h, qs, t, gr, u, tr, oc) (Sw, S, Z, Sh, Hs, X, Gg, U, K, O)) := by
  refine met_vx (vx_ofWH (cc := cL_whistle) (maxL := 4) (ret := (some .int)) (by decide) rfl ?_)
  intro p e s m args below meth c s₁ B hml hv
  obtain ⟨ha, ⟨⟨hsz, hP, hK, hD0, hE0⟩, hC⟩, hN9⟩ := hv
  have hx := B.exec
  have hb := B.bytes
  have hr := B.returns
  have hlocks := B.notSynchronized
  have hts := atoms_spec (ws := wsL_whistle) B.pre
  have htab := vx_table (x := yL_whistle) B (hts (.codeWith yL_whistle cL_whistle 4 (some .int) [(0, 6, 7, 16), (0, 6, 11, 20)]) List.mem_cons_self)
  have hown : s.vm.findClass RL = some m.cls := findClass_of_methodNamed B.named
  have cx : CallFix p m c cL_whistle 4 s args wsL_whistle RL := ⟨hx, hb, hml, hown, hts⟩
  subst hsz
  have hD := hD0.self (sz := s.heap.size)
  generalize hAe : va_A (oC T (w, q, qz, h, qs, t, gr, u, tr, oc) (Sw, S, Z, Sh, Hs, X, Gg, U, K, O)) s.heap.size = A at hD hE0 ⊢
  have hE : gE A s s.heap := hE0
  have hA : ∀ q : Nat, s.heap.size ≤ q → A q := fun q h => by rw [← hAe]; exact Or.inr h
  have hS : va_S A s.heap s.heap [] := va_S.rf
  refine w_entry ha (Nat.le_of_ble_eq_true rfl) (fun ls hl => ?_)
  refine w_q (fun Q0 hQ => ?_)
  have hl : lv_has ls 4 [(0, .ref (w 0)), (1, .int (nI rr)), (2, .int (nI mm))] := hl
  refine w_h (fun H locs hHe hLe => ?_)
  have hP : va_P G vwCl (oC T (w, q, qz, h, qs, t, gr, u, tr, oc) (Sw, S, Z, Sh, Hs, X, Gg, U, K, O)) H := by rw [hHe]; exact hP
  have hS : va_S A s.heap H locs := by rw [hHe, hLe]; exact hS
  refine lv_aload_n hx hb dL_whistle_0 rfl (lv_at hl 0 rfl) ?_
  refine lv_iload_n hx hb dL_whistle_1 rfl (lv_at hl 1 rfl) ?_
  refine lv_iload_n hx hb dL_whistle_2 rfl (lv_at hl 2 rfl) ?_
  refine k_rxV (As := [.int (nI rr), .int (nI mm)]) (rest := []) (wc := oC T (w, q, qz, h, qs, t, gr, u, tr, oc) (Sw, S, Z, Sh, Hs, X, Gg, U, K, O)) (wr := []) (w1 := oC T (w, q, qz, h, qs, t, gr, u, tr, oc) (Sw, S, Z, Sh, Hs, X, Gg, U, K, O)) (d := 7) cx (w_X7_whistle_t3 l hst G T H.size w q qz h qs t gr u tr oc Sw S Z Sh Hs X Gg U K O rr mm hr6 hm20 hwhy) (cwV 2 hts gL_whistle_X7_whistle rfl rfl rfl (by decide +kernel) ⟨Nat.le_of_ble_eq_true rfl, Nat.le_of_ble_eq_true rfl⟩) (kN_full hP hD hS hA hE hK) hC (va_recv hK hP (ci := 7) (q0 := 0) rfl rfl) rfl hl.1 rfl (Nat.le_of_ble_eq_true rfl) dL_whistle_3 ⟨Nat.le_of_ble_eq_true rfl, Nat.le_of_ble_eq_true rfl⟩ (fun E9 ce q9 H locs he hP hD hS h1 h2 h3 => ?_) (fun v H locs he => by cases he)
  cases he
  refine vx_catch (own := RL) (name := "java/lang/IllegalStateException") (E := "java/lang/IllegalStateException") hown [⟨0, 6, 7, 16⟩] ⟨0, 6, 11, 20⟩ [] (htab.trans rfl) (List.forall_mem_cons.mpr ⟨Or.inr ⟨by decide, "java/lang/IndexOutOfBoundsException", hts (.classLink RL 16 "java/lang/IndexOutOfBoundsException") (by decide +kernel), hN9.2.1⟩, (fun _ h9 => by cases h9)⟩) (by decide) (by decide) (hts (.classLink RL 20 "java/lang/IllegalStateException") (by decide +kernel)) (va_Nw.use rfl (hC.1 "java/lang/IllegalStateException" (by decide))) h1 h2 h3 ?_
  refine lv_astore_n (lv' := [(3, .ref q9), (0, .ref (w 0)), (1, .int (nI rr)), (2, .int (nI mm))]) hx hb dL_whistle_11 rfl hl (by decide) rfl (fun ls hl => ?_)
  refine lv_bipush (v := (-103)) hx hb dL_whistle_12 (by decide) ?_
  subst hQ
  exact vx_ret (e_rwi hx hb hr hlocks hS rfl hP hD dL_whistle_14)
set_option maxHeartbeats 4000000 in
set_option maxRecDepth 100000 in
theorem c_L_ifWhistled (l : Launch) (G : va_G) (T : Nat → ClassId) (sz : Nat) (w : Nat → Nat) (q : Nat → Nat) (qz : Nat → Nat) (h : Nat → Nat) (qs : Nat → Nat → Nat) (t : Nat → Nat) (gr : Nat → Nat) (u : Nat → Nat) (tr : Nat → Nat) (oc : Nat → Nat) (Sw : Nat → Nat → Int32) (S : Nat → Nat → Int32) (Z : Nat → Nat → Int32) (Sh : Nat → Nat → Int32) (Hs : Nat → Nat → Nat → Int32) (X : Nat → Nat → Int32) (Gg : Nat → Nat → Int32) (U : Nat → Nat → Int32) (K : Nat → Nat → Int32) (O : Nat → Nat → Int32) (rr : Nat) (mm : Nat) (kk : Nat) (hr6 : rr < 6) (hm20 : mm < 20) (hk9 : kk < 4) : RWi l yL_ifWhistled wsL_ifWhistled 5 0 0 G T sz (oC T (w, q, qz, h, qs, t, gr, u, tr, oc) (Sw, S, Z, Sh, Hs, X, Gg, U, K, O)) [.ref (w 0), .int (nI rr), .int (nI mm), .int (nI kk)] (pIf S rr mm kk) (oC T (w, q, qz, h, qs, t, gr, u, tr, oc) (Sw, S, Z, Sh, Hs, X, Gg, U, K, pIfO O S rr mm)) := by
  refine met_vx (vx_ofWH (cc := cL_ifWhistled) (maxL := 5) (ret := (some .int)) (by decide) rfl ?_)
  intro p e s m args below meth c s₁ B hml hv
  obtain ⟨ha, hsz, hP, hK, hD0, hE0⟩ := hv
  have hx := B.exec
  have hb := B.bytes
  have hr := B.returns
  have hlocks := B.notSynchronized
  have hts := atoms_spec (ws := wsL_ifWhistled) B.pre
  have htab := vx_table (x := yL_ifWhistled) B (hts (.codeWith yL_ifWhistled cL_ifWhistled 5 (some .int) [(0, 7, 8, 16), (0, 7, 13, 18)]) List.mem_cons_self)
  have hown : s.vm.findClass RL = some m.cls := findClass_of_methodNamed B.named
  have cx : CallFix p m c cL_ifWhistled 5 s args wsL_ifWhistled RL := ⟨hx, hb, hml, hown, hts⟩
  subst hsz
  have hD := hD0.self (sz := s.heap.size)
  generalize hAe : va_A (oC T (w, q, qz, h, qs, t, gr, u, tr, oc) (Sw, S, Z, Sh, Hs, X, Gg, U, K, O)) s.heap.size = A at hD hE0 ⊢
  have hE : gE A s s.heap := hE0
  have hA : ∀ q : Nat, s.heap.size ≤ q → A q := fun q h => by rw [← hAe]; exact Or.inr h
  have hS : va_S A s.heap s.heap [] := va_S.rf
  refine w_entry ha (Nat.le_of_ble_eq_true rfl) (fun ls hl => ?_)
  refine w_q (fun Q0 hQ => ?_)
  have hl : lv_has ls 5 [(0, .ref (w 0)), (1, .int (nI rr)), (2, .int (nI mm)), (3, .int (nI kk))] := hl
  refine w_h (fun H locs hHe hLe => ?_)
  have hP : va_P G vwCl (oC T (w, q, qz, h, qs, t, gr, u, tr, oc) (Sw, S, Z, Sh, Hs, X, Gg, U, K, O)) H := by rw [hHe]; exact hP
  have hS : va_S A s.heap H locs := by rw [hHe, hLe]; exact hS
  refine lv_aload_n hx hb dL_ifWhistled_0 rfl (lv_at hl 0 rfl) ?_
  refine lv_iload_n hx hb dL_ifWhistled_1 rfl (lv_at hl 1 rfl) ?_
  refine lv_iload_n hx hb dL_ifWhistled_2 rfl (lv_at hl 2 rfl) ?_
  refine lv_iload_n hx hb dL_ifWhistled_3 rfl (lv_at hl 3 rfl) ?_
  refine k_rwV (As := [.int (nI rr), .int (nI mm), .int (nI kk)]) (rest := []) (wc := oC T (w, q, qz, h, qs, t, gr, u, tr, oc) (Sw, S, Z, Sh, Hs, X, Gg, U, K, O)) (wr := []) (w1 := oC T (w, q, qz, h, qs, t, gr, u, tr, oc) (Sw, S, Z, Sh, Hs, X, Gg, U, K, pIfO O S rr mm)) (d := 4) (mc := 0) (ms := 0) (v := pIf S rr mm kk) cx (w_X7_ifWhistled l G T H.size w q qz h qs t gr u tr oc Sw S Z Sh Hs X Gg U K O rr mm kk hr6 hm20 hk9) (cwV 3 hts gL_ifWhistled_X7_ifWhistled rfl rfl rfl (by decide +kernel) ⟨Nat.le_of_ble_eq_true rfl, Nat.le_of_ble_eq_true rfl⟩) (kN_full hP hD hS hA hE hK) (va_recv hK hP (ci := 7) (q0 := 0) rfl rfl) rfl hl.1 rfl (Nat.le_of_ble_eq_true rfl) dL_ifWhistled_4 ⟨Nat.le_of_ble_eq_true rfl, Nat.le_of_ble_eq_true rfl⟩ (fun H locs hP hD hS hz => ?_)
  have hP : va_P G vwCl (oC T (w, q, qz, h, qs, t, gr, u, tr, oc) (Sw, S, Z, Sh, Hs, X, Gg, U, K, pIfO O S rr mm)) H := hP
  have hD : va_D A (oC T (w, q, qz, h, qs, t, gr, u, tr, oc) (Sw, S, Z, Sh, Hs, X, Gg, U, K, pIfO O S rr mm)) := hD
  subst hQ
  exact vx_ret (e_rwi hx hb hr hlocks hS rfl hP hD dL_ifWhistled_7)
set_option maxHeartbeats 4000000 in
set_option maxRecDepth 100000 in
theorem c_L_bestRoom (l : Launch) (G : va_G) (T : Nat → ClassId) (sz : Nat) (w : Nat → Nat) (q : Nat → Nat) (qz : Nat → Nat) (h : Nat → Nat) (qs : Nat → Nat → Nat) (t : Nat → Nat) (gr : Nat → Nat) (u : Nat → Nat) (tr : Nat → Nat) (oc : Nat → Nat) (Sw : Nat → Nat → Int32) (S : Nat → Nat → Int32) (Z : Nat → Nat → Int32) (Sh : Nat → Nat → Int32) (Hs : Nat → Nat → Nat → Int32) (X : Nat → Nat → Int32) (Gg : Nat → Nat → Int32) (U : Nat → Nat → Int32) (K : Nat → Nat → Int32) (O : Nat → Nat → Int32) (mm : Nat) (hm20 : mm < 20) : RWi l yL_bestRoom wsL_bestRoom 5 0 0 G T sz (oC T (w, q, qz, h, qs, t, gr, u, tr, oc) (Sw, S, Z, Sh, Hs, X, Gg, U, K, O)) [.ref (w 0), .int (nI mm)] (pBr S mm 6).1 (oC T (w, q, qz, h, qs, t, gr, u, tr, oc) (Sw, S, Z, Sh, Hs, X, Gg, U, K, pBrO O S mm 6)) := by
  refine met_vx (vx_ofWH (cc := cL_bestRoom) (maxL := 3) (ret := (some .int)) (by decide) rfl ?_)
  intro p e s m args below meth c s₁ B hml hv
  obtain ⟨ha, hsz, hP, hK, hD0, hE0⟩ := hv
  have hx := B.exec
  have hb := B.bytes
  have hr := B.returns
  have hlocks := B.notSynchronized
  have hts := atoms_spec (ws := wsL_bestRoom) B.pre
  have htab := vx_table (x := yL_bestRoom) B (hts (.codeWith yL_bestRoom cL_bestRoom 3 (some .int) [(0, 5, 6, 16)]) List.mem_cons_self)
  have hown : s.vm.findClass RL = some m.cls := findClass_of_methodNamed B.named
  have cx : CallFix p m c cL_bestRoom 3 s args wsL_bestRoom RL := ⟨hx, hb, hml, hown, hts⟩
  subst hsz
  have hD := hD0.self (sz := s.heap.size)
  generalize hAe : va_A (oC T (w, q, qz, h, qs, t, gr, u, tr, oc) (Sw, S, Z, Sh, Hs, X, Gg, U, K, O)) s.heap.size = A at hD hE0 ⊢
  have hE : gE A s s.heap := hE0
  have hA : ∀ q : Nat, s.heap.size ≤ q → A q := fun q h => by rw [← hAe]; exact Or.inr h
  have hS : va_S A s.heap s.heap [] := va_S.rf
  refine w_entry ha (Nat.le_of_ble_eq_true rfl) (fun ls hl => ?_)
  refine w_q (fun Q0 hQ => ?_)
  have hl : lv_has ls 3 [(0, .ref (w 0)), (1, .int (nI mm))] := hl
  refine w_h (fun H locs hHe hLe => ?_)
  have hP : va_P G vwCl (oC T (w, q, qz, h, qs, t, gr, u, tr, oc) (Sw, S, Z, Sh, Hs, X, Gg, U, K, O)) H := by rw [hHe]; exact hP
  have hS : va_S A s.heap H locs := by rw [hHe, hLe]; exact hS
  refine lv_aload_n hx hb dL_bestRoom_0 rfl (lv_at hl 0 rfl) ?_
  refine lv_iload_n hx hb dL_bestRoom_1 rfl (lv_at hl 1 rfl) ?_
  refine k_rwV (As := [.int (nI mm)]) (rest := []) (wc := oC T (w, q, qz, h, qs, t, gr, u, tr, oc) (Sw, S, Z, Sh, Hs, X, Gg, U, K, O)) (wr := []) (w1 := oC T (w, q, qz, h, qs, t, gr, u, tr, oc) (Sw, S, Z, Sh, Hs, X, Gg, U, K, pBrO O S mm 6)) (d := 4) (mc := 0) (ms := 0) (v := (pBr S mm 6).1) cx (w_X7_bestRoom l G T H.size w q qz h qs t gr u tr oc Sw S Z Sh Hs X Gg U K O mm hm20) (cwV 1 hts gL_bestRoom_X7_bestRoom rfl rfl rfl (by decide +kernel) ⟨Nat.le_of_ble_eq_true rfl, Nat.le_of_ble_eq_true rfl⟩) (kN_full hP hD hS hA hE hK) (va_recv hK hP (ci := 7) (q0 := 0) rfl rfl) rfl hl.1 rfl (Nat.le_of_ble_eq_true rfl) dL_bestRoom_2 ⟨Nat.le_of_ble_eq_true rfl, Nat.le_of_ble_eq_true rfl⟩ (fun H locs hP hD hS hz => ?_)
  have hP : va_P G vwCl (oC T (w, q, qz, h, qs, t, gr, u, tr, oc) (Sw, S, Z, Sh, Hs, X, Gg, U, K, pBrO O S mm 6)) H := hP
  have hD : va_D A (oC T (w, q, qz, h, qs, t, gr, u, tr, oc) (Sw, S, Z, Sh, Hs, X, Gg, U, K, pBrO O S mm 6)) := hD
  subst hQ
  exact vx_ret (e_rwi hx hb hr hlocks hS rfl hP hD dL_bestRoom_5)
set_option maxHeartbeats 4000000 in
set_option maxRecDepth 100000 in
theorem c_L_append (l : Launch) (G : va_G) (T : Nat → ClassId) (sz : Nat) (w : Nat → Nat) (q : Nat → Nat) (qz : Nat → Nat) (h : Nat → Nat) (qs : Nat → Nat → Nat) (t : Nat → Nat) (gr : Nat → Nat) (u : Nat → Nat) (tr : Nat → Nat) (oc : Nat → Nat) (Sw : Nat → Nat → Int32) (S : Nat → Nat → Int32) (Z : Nat → Nat → Int32) (Sh : Nat → Nat → Int32) (Hs : Nat → Nat → Nat → Int32) (X : Nat → Nat → Int32) (Gg : Nat → Nat → Int32) (U : Nat → Nat → Int32) (K : Nat → Nat → Int32) (O : Nat → Nat → Int32) (n : Nat) (cc : Nat) (hlen : X 0 1 = nI n) (hn60 : n ≤ 60) (hn59 : n < 60) (hc33 : 33 ≤ cc) (hc126 : cc ≤ 126) : RWi l yL_append wsL_append 3 0 0 G T sz (oC T (w, q, qz, h, qs, t, gr, u, tr, oc) (Sw, S, Z, Sh, Hs, X, Gg, U, K, O)) [.ref (w 0), .int (nI cc)] (nI (n + 1)) (oC T (w, q, qz, h, qs, t, gr, u, tr, oc) (Sw, S, Z, Sh, Hs, sa (sc X 1 (nI (n + 1))) 1 (upd (X 1) n (nI cc)), Gg, U, K, O)) := by
  refine met_vx (vx_ofWH (cc := cL_append) (maxL := 3) (ret := (some .int)) (by decide) rfl ?_)
  intro p e s m args below meth c s₁ B hml hv
  obtain ⟨ha, hsz, hP, hK, hD0, hE0⟩ := hv
  have hx := B.exec
  have hb := B.bytes
  have hr := B.returns
  have hlocks := B.notSynchronized
  have hts := atoms_spec (ws := wsL_append) B.pre
  have htab := vx_table (x := yL_append) B (hts (.codeWith yL_append cL_append 3 (some .int) [(0, 5, 6, 18), (0, 5, 10, 20)]) List.mem_cons_self)
  have hown : s.vm.findClass RL = some m.cls := findClass_of_methodNamed B.named
  have cx : CallFix p m c cL_append 3 s args wsL_append RL := ⟨hx, hb, hml, hown, hts⟩
  subst hsz
  have hD := hD0.self (sz := s.heap.size)
  generalize hAe : va_A (oC T (w, q, qz, h, qs, t, gr, u, tr, oc) (Sw, S, Z, Sh, Hs, X, Gg, U, K, O)) s.heap.size = A at hD hE0 ⊢
  have hE : gE A s s.heap := hE0
  have hA : ∀ q : Nat, s.heap.size ≤ q → A q := fun q h => by rw [← hAe]; exact Or.inr h
  have hS : va_S A s.heap s.heap [] := va_S.rf
  refine w_entry ha (Nat.le_of_ble_eq_true rfl) (fun ls hl => ?_)
  refine w_q (fun Q0 hQ => ?_)
  have hl : lv_has ls 3 [(0, .ref (w 0)), (1, .int (nI cc))] := hl
  refine w_h (fun H locs hHe hLe => ?_)
  have hP : va_P G vwCl (oC T (w, q, qz, h, qs, t, gr, u, tr, oc) (Sw, S, Z, Sh, Hs, X, Gg, U, K, O)) H := by rw [hHe]; exact hP
  have hS : va_S A s.heap H locs := by rw [hHe, hLe]; exact hS
  refine lv_aload_n hx hb dL_append_0 rfl (lv_at hl 0 rfl) ?_
  refine lv_iload_n hx hb dL_append_1 rfl (lv_at hl 1 rfl) ?_
  refine k_rwV (As := [.int (nI cc)]) (rest := []) (wc := oC T (w, q, qz, h, qs, t, gr, u, tr, oc) (Sw, S, Z, Sh, Hs, X, Gg, U, K, O)) (wr := []) (w1 := oC T (w, q, qz, h, qs, t, gr, u, tr, oc) (Sw, S, Z, Sh, Hs, sa (sc X 1 (nI (n + 1))) 1 (upd (X 1) n (nI cc)), Gg, U, K, O)) (d := 2) (mc := 0) (ms := 0) (v := nI (n + 1)) cx (w_X7_append l G T H.size w q qz h qs t gr u tr oc Sw S Z Sh Hs X Gg U K O n cc hlen hn60 hn59 hc33 hc126) (cwV 1 hts gL_append_X7_append rfl rfl rfl (by decide +kernel) ⟨Nat.le_of_ble_eq_true rfl, Nat.le_of_ble_eq_true rfl⟩) (kN_full hP hD hS hA hE hK) (va_recv hK hP (ci := 7) (q0 := 0) rfl rfl) rfl hl.1 rfl (Nat.le_of_ble_eq_true rfl) dL_append_2 ⟨Nat.le_of_ble_eq_true rfl, Nat.le_of_ble_eq_true rfl⟩ (fun H locs hP hD hS hz => ?_)
  have hP : va_P G vwCl (oC T (w, q, qz, h, qs, t, gr, u, tr, oc) (Sw, S, Z, Sh, Hs, sa (sc X 1 (nI (n + 1))) 1 (upd (X 1) n (nI cc)), Gg, U, K, O)) H := hP
  have hD : va_D A (oC T (w, q, qz, h, qs, t, gr, u, tr, oc) (Sw, S, Z, Sh, Hs, sa (sc X 1 (nI (n + 1))) 1 (upd (X 1) n (nI cc)), Gg, U, K, O)) := hD
  subst hQ
  exact vx_ret (e_rwi hx hb hr hlocks hS rfl hP hD dL_append_5)
set_option maxHeartbeats 4000000 in
set_option maxRecDepth 100000 in
theorem c_L_undo (l : Launch) (G : va_G) (T : Nat → ClassId) (sz : Nat) (w : Nat → Nat) (q : Nat → Nat) (qz : Nat → Nat) (h : Nat → Nat) (qs : Nat → Nat → Nat) (t : Nat → Nat) (gr : Nat → Nat) (u : Nat → Nat) (tr : Nat → Nat) (oc : Nat → Nat) (Sw : Nat → Nat → Int32) (S : Nat → Nat → Int32) (Z : Nat → Nat → Int32) (Sh : Nat → Nat → Int32) (Hs : Nat → Nat → Nat → Int32) (X : Nat → Nat → Int32) (Gg : Nat → Nat → Int32) (U : Nat → Nat → Int32) (K : Nat → Nat → Int32) (O : Nat → Nat → Int32) (o : Nat) (n : Nat) (ho : Sh 0 1 = nI o) (hn : Sh 0 2 = nI n) (ho6 : o < 6) (hn6 : n ≤ 6) (hn0 : 0 < n) : RWi l yL_undo wsL_undo 4 0 0 G T sz (oC T (w, q, qz, h, qs, t, gr, u, tr, oc) (Sw, S, Z, Sh, Hs, X, Gg, U, K, O)) [.ref (w 0)] (nI (n - 1)) (oC T (w, q, qz, h, qs, t, gr, u, tr, oc) (Sw, Hs ((o + (n - 1)) % 6), Z, sc Sh 2 (nI (n - 1)), Hs, X, Gg, U, K, O)) := by
  refine met_vx (vx_ofWH (cc := cL_undo) (maxL := 2) (ret := (some .int)) (by decide) rfl ?_)
  intro p e s m args below meth c s₁ B hml hv
  obtain ⟨ha, hsz, hP, hK, hD0, hE0⟩ := hv
  have hx := B.exec
  have hb := B.bytes
  have hr := B.returns
  have hlocks := B.notSynchronized
  have hts := atoms_spec (ws := wsL_undo) B.pre
  have htab := vx_table (x := yL_undo) B (hts (.codeWith yL_undo cL_undo 2 (some .int) [(0, 4, 5, 20)]) List.mem_cons_self)
  have hown : s.vm.findClass RL = some m.cls := findClass_of_methodNamed B.named
  have cx : CallFix p m c cL_undo 2 s args wsL_undo RL := ⟨hx, hb, hml, hown, hts⟩
  subst hsz
  have hD := hD0.self (sz := s.heap.size)
  generalize hAe : va_A (oC T (w, q, qz, h, qs, t, gr, u, tr, oc) (Sw, S, Z, Sh, Hs, X, Gg, U, K, O)) s.heap.size = A at hD hE0 ⊢
  have hE : gE A s s.heap := hE0
  have hA : ∀ q : Nat, s.heap.size ≤ q → A q := fun q h => by rw [← hAe]; exact Or.inr h
  have hS : va_S A s.heap s.heap [] := va_S.rf
  refine w_entry ha (Nat.le_of_ble_eq_true rfl) (fun ls hl => ?_)
  refine w_q (fun Q0 hQ => ?_)
  have hl : lv_has ls 2 [(0, .ref (w 0))] := hl
  refine w_h (fun H locs hHe hLe => ?_)
  have hP : va_P G vwCl (oC T (w, q, qz, h, qs, t, gr, u, tr, oc) (Sw, S, Z, Sh, Hs, X, Gg, U, K, O)) H := by rw [hHe]; exact hP
  have hS : va_S A s.heap H locs := by rw [hHe, hLe]; exact hS
  refine lv_aload_n hx hb dL_undo_0 rfl (lv_at hl 0 rfl) ?_
  refine k_rwV (As := []) (rest := []) (wc := oC T (w, q, qz, h, qs, t, gr, u, tr, oc) (Sw, S, Z, Sh, Hs, X, Gg, U, K, O)) (wr := []) (w1 := oC T (w, q, qz, h, qs, t, gr, u, tr, oc) (Sw, Hs ((o + (n - 1)) % 6), Z, sc Sh 2 (nI (n - 1)), Hs, X, Gg, U, K, O)) (d := 3) (mc := 0) (ms := 0) (v := nI (n - 1)) cx (w_X7_undo l G T H.size w q qz h qs t gr u tr oc Sw S Z Sh Hs X Gg U K O o n ho hn ho6 hn6 hn0) (cwV 0 hts gL_undo_X7_undo rfl rfl rfl (by decide +kernel) ⟨Nat.le_of_ble_eq_true rfl, Nat.le_of_ble_eq_true rfl⟩) (kN_full hP hD hS hA hE hK) (va_recv hK hP (ci := 7) (q0 := 0) rfl rfl) rfl hl.1 rfl (Nat.le_of_ble_eq_true rfl) dL_undo_1 ⟨Nat.le_of_ble_eq_true rfl, Nat.le_of_ble_eq_true rfl⟩ (fun H locs hP hD hS hz => ?_)
  have hP : va_P G vwCl (oC T (w, q, qz, h, qs, t, gr, u, tr, oc) (Sw, Hs ((o + (n - 1)) % 6), Z, sc Sh 2 (nI (n - 1)), Hs, X, Gg, U, K, O)) H := hP
  have hD : va_D A (oC T (w, q, qz, h, qs, t, gr, u, tr, oc) (Sw, Hs ((o + (n - 1)) % 6), Z, sc Sh 2 (nI (n - 1)), Hs, X, Gg, U, K, O)) := hD
  subst hQ
  exact vx_ret (e_rwi hx hb hr hlocks hS rfl hP hD dL_undo_4)
set_option maxHeartbeats 4000000 in
set_option maxRecDepth 100000 in
theorem c_L_count_3 (l : Launch) (G : va_G) (T : Nat → ClassId) (sz : Nat) (w : Nat → Nat) (q : Nat → Nat) (qz : Nat → Nat) (h : Nat → Nat) (qs : Nat → Nat → Nat) (t : Nat → Nat) (gr : Nat → Nat) (u : Nat → Nat) (tr : Nat → Nat) (oc : Nat → Nat) (Sw : Nat → Nat → Int32) (S : Nat → Nat → Int32) (Z : Nat → Nat → Int32) (Sh : Nat → Nat → Int32) (Hs : Nat → Nat → Nat → Int32) (X : Nat → Nat → Int32) (Gg : Nat → Nat → Int32) (U : Nat → Nat → Int32) (K : Nat → Nat → Int32) (O : Nat → Nat → Int32) (tl : Nat → Nat) (htl : ∀ i : Nat, i < 20 → S 6 i = nI (tl i)) (htl8 : ∀ i : Nat, i < 20 → tl i ≤ 8) : RWi l yL_count wsL_count 6 0 0 G T sz (oC T (w, q, qz, h, qs, t, gr, u, tr, oc) (Sw, S, Z, Sh, Hs, X, Gg, U, K, O)) [.ref (w 0), .int (nI 3)] (nI (tG S tl 20).2.2) (oC T (w, q, qz, h, qs, t, gr, u, tr, oc) (Sw, S, Z, Sh, Hs, X, Gg, U, gTr K S tl, O)) := by
  refine met_vx (vx_ofWH (cc := cL_count) (maxL := 3) (ret := (some .int)) (by decide) rfl ?_)
  intro p e s m args below meth c s₁ B hml hv
  obtain ⟨ha, hsz, hP, hK, hD0, hE0⟩ := hv
  have hx := B.exec
  have hb := B.bytes
  have hr := B.returns
  have hlocks := B.notSynchronized
  have hts := atoms_spec (ws := wsL_count) B.pre
  have htab := vx_table (x := yL_count) B (hts (.codeWith yL_count cL_count 3 (some .int) [(0, 5, 6, 18)]) List.mem_cons_self)
  have hown : s.vm.findClass RL = some m.cls := findClass_of_methodNamed B.named
  have cx : CallFix p m c cL_count 3 s args wsL_count RL := ⟨hx, hb, hml, hown, hts⟩
  subst hsz
  have hD := hD0.self (sz := s.heap.size)
  generalize hAe : va_A (oC T (w, q, qz, h, qs, t, gr, u, tr, oc) (Sw, S, Z, Sh, Hs, X, Gg, U, K, O)) s.heap.size = A at hD hE0 ⊢
  have hE : gE A s s.heap := hE0
  have hA : ∀ q : Nat, s.heap.size ≤ q → A q := fun q h => by rw [← hAe]; exact Or.inr h
  have hS : va_S A s.heap s.heap [] := va_S.rf
  refine w_entry ha (Nat.le_of_ble_eq_true rfl) (fun ls hl => ?_)
  refine w_q (fun Q0 hQ => ?_)
  have hl : lv_has ls 3 [(0, .ref (w 0)), (1, .int (nI 3))] := hl
  refine w_h (fun H locs hHe hLe => ?_)
  have hP : va_P G vwCl (oC T (w, q, qz, h, qs, t, gr, u, tr, oc) (Sw, S, Z, Sh, Hs, X, Gg, U, K, O)) H := by rw [hHe]; exact hP
  have hS : va_S A s.heap H locs := by rw [hHe, hLe]; exact hS
  refine lv_aload_n hx hb dL_count_0 rfl (lv_at hl 0 rfl) ?_
  refine lv_iload_n hx hb dL_count_1 rfl (lv_at hl 1 rfl) ?_
  refine k_rwV (As := [.int (nI 3)]) (rest := []) (wc := oC T (w, q, qz, h, qs, t, gr, u, tr, oc) (Sw, S, Z, Sh, Hs, X, Gg, U, K, O)) (wr := []) (w1 := oC T (w, q, qz, h, qs, t, gr, u, tr, oc) (Sw, S, Z, Sh, Hs, X, Gg, U, gTr K S tl, O)) (d := 5) (mc := 0) (ms := 0) (v := nI (tG S tl 20).2.2) cx (w_X7_count_3 l G T H.size w q qz h qs t gr u tr oc Sw S Z Sh Hs X Gg U K O tl htl htl8) (cwV 1 hts gL_count_X7_count rfl rfl rfl (by decide +kernel) ⟨Nat.le_of_ble_eq_true rfl, Nat.le_of_ble_eq_true rfl⟩) (kN_full hP hD hS hA hE hK) (va_recv hK hP (ci := 7) (q0 := 0) rfl rfl) rfl hl.1 rfl (Nat.le_of_ble_eq_true rfl) dL_count_2 ⟨Nat.le_of_ble_eq_true rfl, Nat.le_of_ble_eq_true rfl⟩ (fun H locs hP hD hS hz => ?_)
  have hP : va_P G vwCl (oC T (w, q, qz, h, qs, t, gr, u, tr, oc) (Sw, S, Z, Sh, Hs, X, Gg, U, gTr K S tl, O)) H := hP
  have hD : va_D A (oC T (w, q, qz, h, qs, t, gr, u, tr, oc) (Sw, S, Z, Sh, Hs, X, Gg, U, gTr K S tl, O)) := hD
  subst hQ
  exact vx_ret (e_rwi hx hb hr hlocks hS rfl hP hD dL_count_5)
set_option maxHeartbeats 4000000 in
set_option maxRecDepth 100000 in
theorem c_L_decode_0 (l : Launch) (G : va_G) (T : Nat → ClassId) (sz : Nat) (w : Nat → Nat) (q : Nat → Nat) (qz : Nat → Nat) (h : Nat → Nat) (qs : Nat → Nat → Nat) (t : Nat → Nat) (gr : Nat → Nat) (u : Nat → Nat) (tr : Nat → Nat) (oc : Nat → Nat) (Sw : Nat → Nat → Int32) (S : Nat → Nat → Int32) (Z : Nat → Nat → Int32) (Sh : Nat → Nat → Int32) (Hs : Nat → Nat → Nat → Int32) (X : Nat → Nat → Int32) (Gg : Nat → Nat → Int32) (U : Nat → Nat → Int32) (K : Nat → Nat → Int32) (O : Nat → Nat → Int32) (n : Nat) (cd : Nat → Nat) (tl : Nat → Nat) (kk : Nat) (hlen : X 0 1 = nI n) (hn60 : n ≤ 60) (hcd : ∀ i : Nat, i < n → X 1 i = nI (cd i)) (hc127 : ∀ i : Nat, i < n → cd i < 127) (htl : ∀ i : Nat, i < 20 → S 6 i = nI (tl i)) (htl8 : ∀ i : Nat, i < 20 → tl i ≤ 8) (hk9 : kk < 7) (hbT : bT cd n = true) : RWi l yL_decode wsL_decode 14 0 0 G T sz (oC T (w, q, qz, h, qs, t, gr, u, tr, oc) (Sw, S, Z, Sh, Hs, X, Gg, U, K, O)) [.ref (w 0), .int (nI kk), .int (nI 0)] (pDT S tl (rTu U cd n) (ntT cd n U) (nI kk)) (oC T (w, q, qz, h, qs, t, gr, u, tr, oc) (Sw, S, Z, Sh, Hs, X, gGr Gg cd n 4 false, rTu U cd n, gTO K S tl (ntT cd n U), O)) := by
  refine met_vx (vx_ofWH (cc := cL_decode) (maxL := 4) (ret := (some .int)) (by decide) rfl ?_)
  intro p e s m args below meth c s₁ B hml hv
  obtain ⟨ha, hsz, hP, hK, hD0, hE0⟩ := hv
  have hx := B.exec
  have hb := B.bytes
  have hr := B.returns
  have hlocks := B.notSynchronized
  have hts := atoms_spec (ws := wsL_decode) B.pre
  have htab := vx_table (x := yL_decode) B (hts (.codeWith yL_decode cL_decode 4 (some .int) [(0, 6, 7, 18)]) List.mem_cons_self)
  have hown : s.vm.findClass RL = some m.cls := findClass_of_methodNamed B.named
  have cx : CallFix p m c cL_decode 4 s args wsL_decode RL := ⟨hx, hb, hml, hown, hts⟩
  subst hsz
  have hD := hD0.self (sz := s.heap.size)
  generalize hAe : va_A (oC T (w, q, qz, h, qs, t, gr, u, tr, oc) (Sw, S, Z, Sh, Hs, X, Gg, U, K, O)) s.heap.size = A at hD hE0 ⊢
  have hE : gE A s s.heap := hE0
  have hA : ∀ q : Nat, s.heap.size ≤ q → A q := fun q h => by rw [← hAe]; exact Or.inr h
  have hS : va_S A s.heap s.heap [] := va_S.rf
  refine w_entry ha (Nat.le_of_ble_eq_true rfl) (fun ls hl => ?_)
  refine w_q (fun Q0 hQ => ?_)
  have hl : lv_has ls 4 [(0, .ref (w 0)), (1, .int (nI kk)), (2, .int (nI 0))] := hl
  refine w_h (fun H locs hHe hLe => ?_)
  have hP : va_P G vwCl (oC T (w, q, qz, h, qs, t, gr, u, tr, oc) (Sw, S, Z, Sh, Hs, X, Gg, U, K, O)) H := by rw [hHe]; exact hP
  have hS : va_S A s.heap H locs := by rw [hHe, hLe]; exact hS
  refine lv_aload_n hx hb dL_decode_0 rfl (lv_at hl 0 rfl) ?_
  refine lv_iload_n hx hb dL_decode_1 rfl (lv_at hl 1 rfl) ?_
  refine lv_iload_n hx hb dL_decode_2 rfl (lv_at hl 2 rfl) ?_
  refine k_rwV (As := [.int (nI kk), .int (nI 0)]) (rest := []) (wc := oC T (w, q, qz, h, qs, t, gr, u, tr, oc) (Sw, S, Z, Sh, Hs, X, Gg, U, K, O)) (wr := []) (w1 := oC T (w, q, qz, h, qs, t, gr, u, tr, oc) (Sw, S, Z, Sh, Hs, X, gGr Gg cd n 4 false, rTu U cd n, gTO K S tl (ntT cd n U), O)) (d := 13) (mc := 0) (ms := 0) (v := pDT S tl (rTu U cd n) (ntT cd n U) (nI kk)) cx (w_X7_decode_0 l G T H.size w q qz h qs t gr u tr oc Sw S Z Sh Hs X Gg U K O n cd tl kk hlen hn60 hcd hc127 htl htl8 hk9 hbT) (cwV 2 hts gL_decode_X7_decode rfl rfl rfl (by decide +kernel) ⟨Nat.le_of_ble_eq_true rfl, Nat.le_of_ble_eq_true rfl⟩) (kN_full hP hD hS hA hE hK) (va_recv hK hP (ci := 7) (q0 := 0) rfl rfl) rfl hl.1 rfl (Nat.le_of_ble_eq_true rfl) dL_decode_3 ⟨Nat.le_of_ble_eq_true rfl, Nat.le_of_ble_eq_true rfl⟩ (fun H locs hP hD hS hz => ?_)
  have hP : va_P G vwCl (oC T (w, q, qz, h, qs, t, gr, u, tr, oc) (Sw, S, Z, Sh, Hs, X, gGr Gg cd n 4 false, rTu U cd n, gTO K S tl (ntT cd n U), O)) H := hP
  have hD : va_D A (oC T (w, q, qz, h, qs, t, gr, u, tr, oc) (Sw, S, Z, Sh, Hs, X, gGr Gg cd n 4 false, rTu U cd n, gTO K S tl (ntT cd n U), O)) := hD
  subst hQ
  exact vx_ret (e_rwi hx hb hr hlocks hS rfl hP hD dL_decode_6)
set_option maxHeartbeats 4000000 in
set_option maxRecDepth 100000 in
theorem c_L_decode_1 (l : Launch) (G : va_G) (T : Nat → ClassId) (sz : Nat) (w : Nat → Nat) (q : Nat → Nat) (qz : Nat → Nat) (h : Nat → Nat) (qs : Nat → Nat → Nat) (t : Nat → Nat) (gr : Nat → Nat) (u : Nat → Nat) (tr : Nat → Nat) (oc : Nat → Nat) (Sw : Nat → Nat → Int32) (S : Nat → Nat → Int32) (Z : Nat → Nat → Int32) (Sh : Nat → Nat → Int32) (Hs : Nat → Nat → Nat → Int32) (X : Nat → Nat → Int32) (Gg : Nat → Nat → Int32) (U : Nat → Nat → Int32) (K : Nat → Nat → Int32) (O : Nat → Nat → Int32) (n : Nat) (cd : Nat → Nat) (tl : Nat → Nat) (kk : Nat) (hlen : X 0 1 = nI n) (hn60 : n ≤ 60) (hcd : ∀ i : Nat, i < n → X 1 i = nI (cd i)) (hc127 : ∀ i : Nat, i < n → cd i < 127) (htl : ∀ i : Nat, i < 20 → S 6 i = nI (tl i)) (htl8 : ∀ i : Nat, i < 20 → tl i ≤ 8) (hk9 : kk < 7) (hbT : bT cd n = true) : RWi l yL_decode wsL_decode 14 0 0 G T sz (oC T (w, q, qz, h, qs, t, gr, u, tr, oc) (Sw, S, Z, Sh, Hs, X, Gg, U, K, O)) [.ref (w 0), .int (nI kk), .int (nI 1)] (pDM S tl (rTu U cd n) (ntT cd n U) (nI kk)) (oC T (w, q, qz, h, qs, t, gr, u, tr, oc) (Sw, S, Z, Sh, Hs, X, gGr Gg cd n 4 false, rTu U cd n, K, O)) := by
  refine met_vx (vx_ofWH (cc := cL_decode) (maxL := 4) (ret := (some .int)) (by decide) rfl ?_)
  intro p e s m args below meth c s₁ B hml hv
  obtain ⟨ha, hsz, hP, hK, hD0, hE0⟩ := hv
  have hx := B.exec
  have hb := B.bytes
  have hr := B.returns
  have hlocks := B.notSynchronized
  have hts := atoms_spec (ws := wsL_decode) B.pre
  have htab := vx_table (x := yL_decode) B (hts (.codeWith yL_decode cL_decode 4 (some .int) [(0, 6, 7, 18)]) List.mem_cons_self)
  have hown : s.vm.findClass RL = some m.cls := findClass_of_methodNamed B.named
  have cx : CallFix p m c cL_decode 4 s args wsL_decode RL := ⟨hx, hb, hml, hown, hts⟩
  subst hsz
  have hD := hD0.self (sz := s.heap.size)
  generalize hAe : va_A (oC T (w, q, qz, h, qs, t, gr, u, tr, oc) (Sw, S, Z, Sh, Hs, X, Gg, U, K, O)) s.heap.size = A at hD hE0 ⊢
  have hE : gE A s s.heap := hE0
  have hA : ∀ q : Nat, s.heap.size ≤ q → A q := fun q h => by rw [← hAe]; exact Or.inr h
  have hS : va_S A s.heap s.heap [] := va_S.rf
  refine w_entry ha (Nat.le_of_ble_eq_true rfl) (fun ls hl => ?_)
  refine w_q (fun Q0 hQ => ?_)
  have hl : lv_has ls 4 [(0, .ref (w 0)), (1, .int (nI kk)), (2, .int (nI 1))] := hl
  refine w_h (fun H locs hHe hLe => ?_)
  have hP : va_P G vwCl (oC T (w, q, qz, h, qs, t, gr, u, tr, oc) (Sw, S, Z, Sh, Hs, X, Gg, U, K, O)) H := by rw [hHe]; exact hP
  have hS : va_S A s.heap H locs := by rw [hHe, hLe]; exact hS
  refine lv_aload_n hx hb dL_decode_0 rfl (lv_at hl 0 rfl) ?_
  refine lv_iload_n hx hb dL_decode_1 rfl (lv_at hl 1 rfl) ?_
  refine lv_iload_n hx hb dL_decode_2 rfl (lv_at hl 2 rfl) ?_
  refine k_rwV (As := [.int (nI kk), .int (nI 1)]) (rest := []) (wc := oC T (w, q, qz, h, qs, t, gr, u, tr, oc) (Sw, S, Z, Sh, Hs, X, Gg, U, K, O)) (wr := []) (w1 := oC T (w, q, qz, h, qs, t, gr, u, tr, oc) (Sw, S, Z, Sh, Hs, X, gGr Gg cd n 4 false, rTu U cd n, K, O)) (d := 13) (mc := 0) (ms := 0) (v := pDM S tl (rTu U cd n) (ntT cd n U) (nI kk)) cx (w_X7_decode_1 l G T H.size w q qz h qs t gr u tr oc Sw S Z Sh Hs X Gg U K O n cd tl kk hlen hn60 hcd hc127 htl htl8 hk9 hbT) (cwV 2 hts gL_decode_X7_decode rfl rfl rfl (by decide +kernel) ⟨Nat.le_of_ble_eq_true rfl, Nat.le_of_ble_eq_true rfl⟩) (kN_full hP hD hS hA hE hK) (va_recv hK hP (ci := 7) (q0 := 0) rfl rfl) rfl hl.1 rfl (Nat.le_of_ble_eq_true rfl) dL_decode_3 ⟨Nat.le_of_ble_eq_true rfl, Nat.le_of_ble_eq_true rfl⟩ (fun H locs hP hD hS hz => ?_)
  have hP : va_P G vwCl (oC T (w, q, qz, h, qs, t, gr, u, tr, oc) (Sw, S, Z, Sh, Hs, X, gGr Gg cd n 4 false, rTu U cd n, K, O)) H := hP
  have hD : va_D A (oC T (w, q, qz, h, qs, t, gr, u, tr, oc) (Sw, S, Z, Sh, Hs, X, gGr Gg cd n 4 false, rTu U cd n, K, O)) := hD
  subst hQ
  exact vx_ret (e_rwi hx hb hr hlocks hS rfl hP hD dL_decode_6)
set_option maxHeartbeats 4000000 in
set_option maxRecDepth 100000 in
theorem c_L_keyOf (l : Launch) (G : va_G) (T : Nat → ClassId) (sz : Nat) (w : Nat → Nat) (q : Nat → Nat) (qz : Nat → Nat) (h : Nat → Nat) (qs : Nat → Nat → Nat) (t : Nat → Nat) (gr : Nat → Nat) (u : Nat → Nat) (tr : Nat → Nat) (oc : Nat → Nat) (Sw : Nat → Nat → Int32) (S : Nat → Nat → Int32) (Z : Nat → Nat → Int32) (Sh : Nat → Nat → Int32) (Hs : Nat → Nat → Nat → Int32) (X : Nat → Nat → Int32) (Gg : Nat → Nat → Int32) (U : Nat → Nat → Int32) (K : Nat → Nat → Int32) (O : Nat → Nat → Int32) (n : Nat) (cd : Nat → Nat) (tl : Nat → Nat) (hlen : X 0 1 = nI n) (hn60 : n ≤ 60) (hcd : ∀ i : Nat, i < n → X 1 i = nI (cd i)) (hc127 : ∀ i : Nat, i < n → cd i < 127) (htl : ∀ i : Nat, i < 20 → S 6 i = nI (tl i)) (htl8 : ∀ i : Nat, i < 20 → tl i ≤ 8) (hbT : bT cd n = true) : RWi l yL_keyOf wsL_keyOf 14 0 0 G T sz (oC T (w, q, qz, h, qs, t, gr, u, tr, oc) (Sw, S, Z, Sh, Hs, X, Gg, U, K, O)) [.ref (w 0)] (pKO S tl (rTu U cd n) (ntT cd n U)) (oC T (w, q, qz, h, qs, t, gr, u, tr, oc) (Sw, S, Z, Sh, Hs, X, gGr Gg cd n 4 false, rTu U cd n, gTO K S tl (ntT cd n U), O)) := by
  refine met_vx (vx_ofWH (cc := cL_keyOf) (maxL := 2) (ret := (some .int)) (by decide) rfl ?_)
  intro p e s m args below meth c s₁ B hml hv
  obtain ⟨ha, hsz, hP, hK, hD0, hE0⟩ := hv
  have hx := B.exec
  have hb := B.bytes
  have hr := B.returns
  have hlocks := B.notSynchronized
  have hts := atoms_spec (ws := wsL_keyOf) B.pre
  have htab := vx_table (x := yL_keyOf) B (hts (.codeWith yL_keyOf cL_keyOf 2 (some .int) [(0, 4, 5, 18)]) List.mem_cons_self)
  have hown : s.vm.findClass RL = some m.cls := findClass_of_methodNamed B.named
  have cx : CallFix p m c cL_keyOf 2 s args wsL_keyOf RL := ⟨hx, hb, hml, hown, hts⟩
  subst hsz
  have hD := hD0.self (sz := s.heap.size)
  generalize hAe : va_A (oC T (w, q, qz, h, qs, t, gr, u, tr, oc) (Sw, S, Z, Sh, Hs, X, Gg, U, K, O)) s.heap.size = A at hD hE0 ⊢
  have hE : gE A s s.heap := hE0
  have hA : ∀ q : Nat, s.heap.size ≤ q → A q := fun q h => by rw [← hAe]; exact Or.inr h
  have hS : va_S A s.heap s.heap [] := va_S.rf
  refine w_entry ha (Nat.le_of_ble_eq_true rfl) (fun ls hl => ?_)
  refine w_q (fun Q0 hQ => ?_)
  have hl : lv_has ls 2 [(0, .ref (w 0))] := hl
  refine w_h (fun H locs hHe hLe => ?_)
  have hP : va_P G vwCl (oC T (w, q, qz, h, qs, t, gr, u, tr, oc) (Sw, S, Z, Sh, Hs, X, Gg, U, K, O)) H := by rw [hHe]; exact hP
  have hS : va_S A s.heap H locs := by rw [hHe, hLe]; exact hS
  refine lv_aload_n hx hb dL_keyOf_0 rfl (lv_at hl 0 rfl) ?_
  refine k_rwV (As := []) (rest := []) (wc := oC T (w, q, qz, h, qs, t, gr, u, tr, oc) (Sw, S, Z, Sh, Hs, X, Gg, U, K, O)) (wr := []) (w1 := oC T (w, q, qz, h, qs, t, gr, u, tr, oc) (Sw, S, Z, Sh, Hs, X, gGr Gg cd n 4 false, rTu U cd n, gTO K S tl (ntT cd n U), O)) (d := 13) (mc := 0) (ms := 0) (v := pKO S tl (rTu U cd n) (ntT cd n U)) cx (w_X7_keyOf l G T H.size w q qz h qs t gr u tr oc Sw S Z Sh Hs X Gg U K O n cd tl hlen hn60 hcd hc127 htl htl8 hbT) (cwV 0 hts gL_keyOf_X7_keyOf rfl rfl rfl (by decide +kernel) ⟨Nat.le_of_ble_eq_true rfl, Nat.le_of_ble_eq_true rfl⟩) (kN_full hP hD hS hA hE hK) (va_recv hK hP (ci := 7) (q0 := 0) rfl rfl) rfl hl.1 rfl (Nat.le_of_ble_eq_true rfl) dL_keyOf_1 ⟨Nat.le_of_ble_eq_true rfl, Nat.le_of_ble_eq_true rfl⟩ (fun H locs hP hD hS hz => ?_)
  have hP : va_P G vwCl (oC T (w, q, qz, h, qs, t, gr, u, tr, oc) (Sw, S, Z, Sh, Hs, X, gGr Gg cd n 4 false, rTu U cd n, gTO K S tl (ntT cd n U), O)) H := hP
  have hD : va_D A (oC T (w, q, qz, h, qs, t, gr, u, tr, oc) (Sw, S, Z, Sh, Hs, X, gGr Gg cd n 4 false, rTu U cd n, gTO K S tl (ntT cd n U), O)) := hD
  subst hQ
  exact vx_ret (e_rwi hx hb hr hlocks hS rfl hP hD dL_keyOf_4)
set_option maxHeartbeats 4000000 in
set_option maxRecDepth 100000 in
theorem c_L_teach (l : Launch) (G : va_G) (T : Nat → ClassId) (sz : Nat) (w : Nat → Nat) (q : Nat → Nat) (qz : Nat → Nat) (h : Nat → Nat) (qs : Nat → Nat → Nat) (t : Nat → Nat) (gr : Nat → Nat) (u : Nat → Nat) (tr : Nat → Nat) (oc : Nat → Nat) (Sw : Nat → Nat → Int32) (S : Nat → Nat → Int32) (Z : Nat → Nat → Int32) (Sh : Nat → Nat → Int32) (Hs : Nat → Nat → Nat → Int32) (X : Nat → Nat → Int32) (Gg : Nat → Nat → Int32) (U : Nat → Nat → Int32) (K : Nat → Nat → Int32) (O : Nat → Nat → Int32) (n : Nat) (cd : Nat → Nat) (tl : Nat → Nat) (o : Nat) (nh : Nat) (mm : Nat) (hlen : X 0 1 = nI n) (hn60 : n ≤ 60) (hcd : ∀ i : Nat, i < n → X 1 i = nI (cd i)) (hc127 : ∀ i : Nat, i < n → cd i < 127) (htl : ∀ i : Nat, i < 20 → S 6 i = nI (tl i)) (htl8 : ∀ i : Nat, i < 20 → tl i ≤ 8) (ho : Sh 0 1 = nI o) (hnh : Sh 0 2 = nI nh) (ho6 : o < 6) (hn6 : nh ≤ 6) (hm20 : mm < 20) (hbT : bT cd n = true) (hra : pRA S tl (rTu U cd n) (ntT cd n U) mm = nI 0) : RWi l yL_teach wsL_teach 14 0 0 G T sz (oC T (w, q, qz, h, qs, t, gr, u, tr, oc) (Sw, S, Z, Sh, Hs, X, Gg, U, K, O)) [.ref (w 0), .int (nI mm)] (nI (ntT cd n U)) (oC T (w, q, qz, h, qs, t, gr, u, tr, oc) (Sw, sa (sa S 6 (upd (S 6) mm (nI (ntT cd n U)))) 7 (va_cpy (rTu U cd n 1) (S 7) 0 (mm * 8) (ntT cd n U)), Z, sc (sc Sh 1 (nI (hPo o nh))) 2 (nI (hPn nh)), updS Hs (hPi o nh) S, sc X 1 (nI 0), gGr Gg cd n 4 false, rTu U cd n, gTO K S tl (ntT cd n U), O)) := by
  refine met_vx (vx_ofWH (cc := cL_teach) (maxL := 3) (ret := (some .int)) (by decide) rfl ?_)
  intro p e s m args below meth c s₁ B hml hv
  obtain ⟨ha, hsz, hP, hK, hD0, hE0⟩ := hv
  have hx := B.exec
  have hb := B.bytes
  have hr := B.returns
  have hlocks := B.notSynchronized
  have hts := atoms_spec (ws := wsL_teach) B.pre
  have htab := vx_table (x := yL_teach) B (hts (.codeWith yL_teach cL_teach 3 (some .int) [(0, 5, 6, 16), (0, 5, 10, 18), (0, 5, 14, 20)]) List.mem_cons_self)
  have hown : s.vm.findClass RL = some m.cls := findClass_of_methodNamed B.named
  have cx : CallFix p m c cL_teach 3 s args wsL_teach RL := ⟨hx, hb, hml, hown, hts⟩
  subst hsz
  have hD := hD0.self (sz := s.heap.size)
  generalize hAe : va_A (oC T (w, q, qz, h, qs, t, gr, u, tr, oc) (Sw, S, Z, Sh, Hs, X, Gg, U, K, O)) s.heap.size = A at hD hE0 ⊢
  have hE : gE A s s.heap := hE0
  have hA : ∀ q : Nat, s.heap.size ≤ q → A q := fun q h => by rw [← hAe]; exact Or.inr h
  have hS : va_S A s.heap s.heap [] := va_S.rf
  refine w_entry ha (Nat.le_of_ble_eq_true rfl) (fun ls hl => ?_)
  refine w_q (fun Q0 hQ => ?_)
  have hl : lv_has ls 3 [(0, .ref (w 0)), (1, .int (nI mm))] := hl
  refine w_h (fun H locs hHe hLe => ?_)
  have hP : va_P G vwCl (oC T (w, q, qz, h, qs, t, gr, u, tr, oc) (Sw, S, Z, Sh, Hs, X, Gg, U, K, O)) H := by rw [hHe]; exact hP
  have hS : va_S A s.heap H locs := by rw [hHe, hLe]; exact hS
  refine lv_aload_n hx hb dL_teach_0 rfl (lv_at hl 0 rfl) ?_
  refine lv_iload_n hx hb dL_teach_1 rfl (lv_at hl 1 rfl) ?_
  refine k_rwV (As := [.int (nI mm)]) (rest := []) (wc := oC T (w, q, qz, h, qs, t, gr, u, tr, oc) (Sw, S, Z, Sh, Hs, X, Gg, U, K, O)) (wr := []) (w1 := oC T (w, q, qz, h, qs, t, gr, u, tr, oc) (Sw, sa (sa S 6 (upd (S 6) mm (nI (ntT cd n U)))) 7 (va_cpy (rTu U cd n 1) (S 7) 0 (mm * 8) (ntT cd n U)), Z, sc (sc Sh 1 (nI (hPo o nh))) 2 (nI (hPn nh)), updS Hs (hPi o nh) S, sc X 1 (nI 0), gGr Gg cd n 4 false, rTu U cd n, gTO K S tl (ntT cd n U), O)) (d := 13) (mc := 0) (ms := 0) (v := nI (ntT cd n U)) cx (w_X7_teach l G T H.size w q qz h qs t gr u tr oc Sw S Z Sh Hs X Gg U K O n cd tl o nh mm hlen hn60 hcd hc127 htl htl8 ho hnh ho6 hn6 hm20 hbT hra) (cwV 1 hts gL_teach_X7_teach rfl rfl rfl (by decide +kernel) ⟨Nat.le_of_ble_eq_true rfl, Nat.le_of_ble_eq_true rfl⟩) (kN_full hP hD hS hA hE hK) (va_recv hK hP (ci := 7) (q0 := 0) rfl rfl) rfl hl.1 rfl (Nat.le_of_ble_eq_true rfl) dL_teach_2 ⟨Nat.le_of_ble_eq_true rfl, Nat.le_of_ble_eq_true rfl⟩ (fun H locs hP hD hS hz => ?_)
  have hP : va_P G vwCl (oC T (w, q, qz, h, qs, t, gr, u, tr, oc) (Sw, sa (sa S 6 (upd (S 6) mm (nI (ntT cd n U)))) 7 (va_cpy (rTu U cd n 1) (S 7) 0 (mm * 8) (ntT cd n U)), Z, sc (sc Sh 1 (nI (hPo o nh))) 2 (nI (hPn nh)), updS Hs (hPi o nh) S, sc X 1 (nI 0), gGr Gg cd n 4 false, rTu U cd n, gTO K S tl (ntT cd n U), O)) H := hP
  have hD : va_D A (oC T (w, q, qz, h, qs, t, gr, u, tr, oc) (Sw, sa (sa S 6 (upd (S 6) mm (nI (ntT cd n U)))) 7 (va_cpy (rTu U cd n 1) (S 7) 0 (mm * 8) (ntT cd n U)), Z, sc (sc Sh 1 (nI (hPo o nh))) 2 (nI (hPn nh)), updS Hs (hPi o nh) S, sc X 1 (nI 0), gGr Gg cd n 4 false, rTu U cd n, gTO K S tl (ntT cd n U), O)) := hD
  subst hQ
  exact vx_ret (e_rwi hx hb hr hlocks hS rfl hP hD dL_teach_5)
set_option maxHeartbeats 4000000 in
set_option maxRecDepth 100000 in
theorem c_L_teach_t3 (l : Launch) (hst : l.stackTraces = false) (G : va_G) (T : Nat → ClassId) (sz : Nat) (w : Nat → Nat) (q : Nat → Nat) (qz : Nat → Nat) (h : Nat → Nat) (qs : Nat → Nat → Nat) (t : Nat → Nat) (gr : Nat → Nat) (u : Nat → Nat) (tr : Nat → Nat) (oc : Nat → Nat) (Sw : Nat → Nat → Int32) (S : Nat → Nat → Int32) (Z : Nat → Nat → Int32) (Sh : Nat → Nat → Int32) (Hs : Nat → Nat → Nat → Int32) (X : Nat → Nat → Int32) (Gg : Nat → Nat → Int32) (U : Nat → Nat → Int32) (K : Nat → Nat → Int32) (O : Nat → Nat → Int32) (n : Nat) (cd : Nat → Nat) (tl : Nat → Nat) (mm : Nat) (hlen : X 0 1 = nI n) (hn60 : n ≤ 60) (hcd : ∀ i : Nat, i < n → X 1 i = nI (cd i)) (hc127 : ∀ i : Nat, i < n → cd i < 127) (htl : ∀ i : Nat, i < 20 → S 6 i = nI (tl i)) (htl8 : ∀ i : Nat, i < 20 → tl i ≤ 8) (hm20 : mm < 20) (hbT : bT cd n = true) (hra : ¬ pRA S tl (rTu U cd n) (ntT cd n U) mm = nI 0) : RWx l yL_teach wsL_teach 14 G T sz (oC T (w, q, qz, h, qs, t, gr, u, tr, oc) (Sw, S, Z, Sh, Hs, X, Gg, U, K, O)) [.ref (w 0), .int (nI mm)] (-103) (oC T (w, q, qz, h, qs, t, gr, u, tr, oc) (Sw, S, Z, Sh, Hs, X, gGr Gg cd n 4 false, rTu U cd n, gTO K S tl (ntT cd n U), O)) := by
  refine met_vx (vx_ofWH (cc := cL_teach) (maxL := 3) (ret := (some .int)) (by decide) rfl ?_)
  intro p e s m args below meth c s₁ B hml hv
  obtain ⟨ha, ⟨⟨hsz, hP, hK, hD0, hE0⟩, hC⟩, hN9⟩ := hv
  have hx := B.exec
  have hb := B.bytes
  have hr := B.returns
  have hlocks := B.notSynchronized
  have hts := atoms_spec (ws := wsL_teach) B.pre
  have htab := vx_table (x := yL_teach) B (hts (.codeWith yL_teach cL_teach 3 (some .int) [(0, 5, 6, 16), (0, 5, 10, 18), (0, 5, 14, 20)]) List.mem_cons_self)
  have hown : s.vm.findClass RL = some m.cls := findClass_of_methodNamed B.named
  have cx : CallFix p m c cL_teach 3 s args wsL_teach RL := ⟨hx, hb, hml, hown, hts⟩
  subst hsz
  have hD := hD0.self (sz := s.heap.size)
  generalize hAe : va_A (oC T (w, q, qz, h, qs, t, gr, u, tr, oc) (Sw, S, Z, Sh, Hs, X, Gg, U, K, O)) s.heap.size = A at hD hE0 ⊢
  have hE : gE A s s.heap := hE0
  have hA : ∀ q : Nat, s.heap.size ≤ q → A q := fun q h => by rw [← hAe]; exact Or.inr h
  have hS : va_S A s.heap s.heap [] := va_S.rf
  refine w_entry ha (Nat.le_of_ble_eq_true rfl) (fun ls hl => ?_)
  refine w_q (fun Q0 hQ => ?_)
  have hl : lv_has ls 3 [(0, .ref (w 0)), (1, .int (nI mm))] := hl
  refine w_h (fun H locs hHe hLe => ?_)
  have hP : va_P G vwCl (oC T (w, q, qz, h, qs, t, gr, u, tr, oc) (Sw, S, Z, Sh, Hs, X, Gg, U, K, O)) H := by rw [hHe]; exact hP
  have hS : va_S A s.heap H locs := by rw [hHe, hLe]; exact hS
  refine lv_aload_n hx hb dL_teach_0 rfl (lv_at hl 0 rfl) ?_
  refine lv_iload_n hx hb dL_teach_1 rfl (lv_at hl 1 rfl) ?_
  refine k_rxV (As := [.int (nI mm)]) (rest := []) (wc := oC T (w, q, qz, h, qs, t, gr, u, tr, oc) (Sw, S, Z, Sh, Hs, X, Gg, U, K, O)) (wr := []) (w1 := oC T (w, q, qz, h, qs, t, gr, u, tr, oc) (Sw, S, Z, Sh, Hs, X, gGr Gg cd n 4 false, rTu U cd n, gTO K S tl (ntT cd n U), O)) (d := 13) cx (w_X7_teach_t3 l hst G T H.size w q qz h qs t gr u tr oc Sw S Z Sh Hs X Gg U K O n cd tl mm hlen hn60 hcd hc127 htl htl8 hm20 hbT hra) (cwV 1 hts gL_teach_X7_teach rfl rfl rfl (by decide +kernel) ⟨Nat.le_of_ble_eq_true rfl, Nat.le_of_ble_eq_true rfl⟩) (kN_full hP hD hS hA hE hK) hC (va_recv hK hP (ci := 7) (q0 := 0) rfl rfl) rfl hl.1 rfl (Nat.le_of_ble_eq_true rfl) dL_teach_2 ⟨Nat.le_of_ble_eq_true rfl, Nat.le_of_ble_eq_true rfl⟩ (fun E9 ce q9 H locs he hP hD hS h1 h2 h3 => ?_) (fun v H locs he => by cases he)
  cases he
  refine vx_catch (own := RL) (name := "java/lang/IllegalStateException") (E := "java/lang/IllegalStateException") hown [⟨0, 5, 6, 16⟩, ⟨0, 5, 10, 18⟩] ⟨0, 5, 14, 20⟩ [] (htab.trans rfl) (List.forall_mem_cons.mpr ⟨Or.inr ⟨by decide, "java/lang/IndexOutOfBoundsException", hts (.classLink RL 16 "java/lang/IndexOutOfBoundsException") (by decide +kernel), hN9.2.1⟩, (List.forall_mem_cons.mpr ⟨Or.inr ⟨by decide, "java/lang/IllegalArgumentException", hts (.classLink RL 18 "java/lang/IllegalArgumentException") (by decide +kernel), hN9.2.2⟩, (fun _ h9 => by cases h9)⟩)⟩) (by decide) (by decide) (hts (.classLink RL 20 "java/lang/IllegalStateException") (by decide +kernel)) (va_Nw.use rfl (hC.1 "java/lang/IllegalStateException" (by decide))) h1 h2 h3 ?_
  refine lv_astore_n (lv' := [(2, .ref q9), (0, .ref (w 0)), (1, .int (nI mm))]) hx hb dL_teach_14 rfl hl (by decide) rfl (fun ls hl => ?_)
  refine lv_bipush (v := (-103)) hx hb dL_teach_15 (by decide) ?_
  subst hQ
  exact vx_ret (e_rwi hx hb hr hlocks hS rfl hP hD dL_teach_17)
