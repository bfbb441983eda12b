/-! the law's wrappers: a call of WhistleTunes, its answer or which exception (printed by wip/whole/swrap.py) -/
def gNn (U : State) : Prop := va_Nc "java/lang/IllegalArgumentException" "java/lang/IndexOutOfBoundsException" U ∧ va_Nc "java/lang/IllegalStateException" "java/lang/IndexOutOfBoundsException" U ∧ va_Nc "java/lang/IllegalStateException" "java/lang/IllegalArgumentException" U
theorem gNn.moved {u U : State} (hvm : u.vm.Alike U.vm) (h : gNn u) : gNn U := ⟨h.1.moved hvm, h.2.1.moved hvm, h.2.2.moved hvm⟩
def RWx (l : Launch) (y : MethodName) (wz : List Cond) (d : Nat) (G : va_G) (T : Nat → ClassId) (sz : Nat) (ws : va_W) (av : List Value) (v : Int32) (w1 : va_W) : Prop := Met l y wz (rmD d 1 6) (va_Pc av (fun U => sX G T sz ws U ∧ gNn U)) (va_Qi (fun (r : Int32) (_ : Unit) => r = v) (fun _ t => sP G (va_A ws sz) w1 t) (va_A ws sz)) 1 6 (va_A ws sz)
theorem sXn_blind {G : va_G} {T : Nat → ClassId} {sz : Nat} {ws : va_W} {av : List Value} : FrameBlind (va_Pc av (fun U => sX G T sz ws U ∧ gNn U)) := by
  rintro a U g mk ⟨h0, h1, h2⟩
  exact ⟨h0, (sX_blind (av := av) a U g mk ⟨h0, h1⟩).2, gNn.moved (u := U) (U := U.calling g mk a) (Vm.Alike.refl U.vm) h2⟩
theorem met_vx {l : Launch} {y : MethodName} {ws : List Cond} {rm : Room} {Pc : Array Value → State → Prop} {Qc : Array Value → State → Outcome → State → Prop} {mc ms : Nat} {free : Addr → Prop} (h : vx_Met l y ws rm Pc Qc (fun _ _ _ => False) mc ms free) : Met l y ws rm Pc Qc mc ms free := by
  unfold vx_Met at h
  unfold Met
  refine Jvm.Free.MetFree.mono h (fun _ _ q => q) (fun _ _ _ _ _ q => q) (fun a s o t _ hq => ?_)
  rcases hq with hq | ⟨q, -, E, ce, L, hX, -⟩
  · exact hq
  · exact hX.elim
section KRX
variable {p : Program} {l : Launch} {e : Env} {R : Room} {s : State} {m : MethodId} {args : Array Value} {below : List Frame} {meth : Method} {c : Code} {H : Heap} {locs : List Loc} {cells slots : Nat} {Q : State → Prop}
variable {y : MethodName} {bytes cc : ByteArray} {maxL nL n index d : Nat} {ret : Option FieldType} {wz Ts : List Cond} {own C : String} {b : Addr} {As rest st0 : List Value} {G : va_G} {T : Nat → ClassId} {A : Nat → Prop} {wc : va_W} {o : Int32 ⊕ String} {pc : Nat} {ls : Array Slot} {W0 wr w1 : va_W}
theorem k_rxV {isC isR : List Nat} (S : CallFix p m c cc nL s args Ts own) (hM : RX l y wz d G T H.size wc (.ref b :: As) o w1) (cw : CallW R s args own C index y bytes maxL ret wz (rmD d 1 6) 1 6 n) (hN : kN G T A s H locs W0 wc wr isC isR) (hC9 : gC s) (hrecv : ∃ cellB : Cell, H[b]? = some cellB ∧ cellB.vm.isStatics = false ∧ s.vm.findClass C = some cellB.cls)
    (hn : As.length = n) (hsz : ls.size = nL) (hst : st0 = As.reverse ++ .ref b :: rest) (hW : (rest.map fun v => v.category).sum ≤ 8) (hdg : decode cc pc = .ok (.invokevirtual index, 3)) (hf : cells + 1 ≤ R.cells ∧ slots + 6 ≤ R.slots)
    (kx : ∀ (E : String) (ce : Cell) (q9 : Addr) (H1 : Heap) (locs1 : List Loc), o = .inr E → va_P G vwCl (wr ++ w1) H1 → va_D A (wr ++ w1) → va_S A s.heap H1 locs1 → H1[q9]? = some ce → ce.vm = .none → s.vm.findClass E = some ce.cls → vx_W p l e R s m args below meth c H1 locs1 (cells + 1) (slots + 6) Q (F0 m pc ls rest) q9)
    (kk : ∀ (v : Int32) (H1 : Heap) (locs1 : List Loc), o = .inl v → va_P G vwCl (wr ++ w1) H1 → va_D A (wr ++ w1) → va_S A s.heap H1 locs1 → W p l e R s m args below meth c H1 locs1 (cells + 1) (slots + 6) Q (F0 m (pc + 3) ls (.int v :: rest))) : W p l e R s m args below meth c H locs cells slots Q (F0 m pc ls st0) := by
  have hpre := hN.pre
  obtain ⟨hP, hD, hS, hA, hE, hK, hC, hnC, hR, hnR, hdis⟩ := hN
  have hF := va_free hD hS hA isC hC
  refine vx_calli (vx_runV S hM cw ⟨sX_blind, hrecv, fun U hU hW1 => ⟨rfl, hpre U hU hW1, hC9.warm hW1⟩⟩ rfl hn hsz hst (lv_room hW) hdg hf) hS (fun q _ h => hF q h) hF (fun q _ h => hF q h) (fun E ce q9 u t H1 locs1 ht hvm hw hB hz hk hS1 h1 h2 h3 => ?_) (fun r u t H1 locs1 ht hvm hw hB hz hk hS1 => ?_)
  · obtain ⟨ho, hP1, hD1⟩ := hB
    rw [ht] at hP1
    obtain ⟨hP2, hD2⟩ := va_join hP hD isC isR hC hR hnR hdis hk hF hP1 hD1
    exact kx E ce q9 H1 locs1 ho hP2 hD2 hS1 h1 h2 h3
  · obtain ⟨hP1, hD1⟩ := hB
    rw [ht] at hP1
    obtain ⟨hP2, hD2⟩ := va_join hP hD isC isR hC hR hnR hdis hk hF hP1 hD1
    exact kk r H1 locs1 hw hP2 hD2 hS1
end KRX
set_option maxHeartbeats 4000000 in
set_option maxRecDepth 100000 in
theorem c_L_stopped (l : Launch) (hst : l.stackTraces = false) (G : va_G) (T : Nat → ClassId) (sz ao : Nat) (f : Nat → Int64) (w : Nat → Nat) (q : Nat → Nat) (qz : Nat → Nat) (h : Nat → Nat) (qs : Nat → Nat → Nat) (t : Nat → Nat) (gr : Nat → Nat) (u : Nat → Nat) (tr : Nat → Nat) (oc : Nat → Nat) (Sw : Nat → Nat → Int32) (S : Nat → Nat → Int32) (Z : Nat → Nat → Int32) (Sh : Nat → Nat → Int32) (Hs : Nat → Nat → Nat → Int32) (X : Nat → Nat → Int32) (Gg : Nat → Nat → Int32) (U : Nat → Nat → Int32) (K : Nat → Nat → Int32) (O : Nat → Nat → Int32) (kk : Nat) (hk9 : kk < 2) : RWx l yL_stopped wsL_stopped 1 G T sz ([(ao, .inl (T 3, 1, .inr (.inl f)))] ++ oC T (w, q, qz, h, qs, t, gr, u, tr, oc) (Sw, S, Z, Sh, Hs, X, Gg, U, K, O)) [.ref (w 0), .int (nI kk), .ref ao] (nI 0) ([(ao, .inl (T 3, 1, .inr (.inl (vp_updL f 0 ((S 16 kk)).toInt64))))] ++ oC T (w, q, qz, h, qs, t, gr, u, tr, oc) (Sw, S, Z, Sh, Hs, X, Gg, U, K, O)) := by
  refine met_vx (vx_ofWH (cc := cL_stopped) (maxL := 4) (ret := (some .int)) (by decide) rfl ?_)
  intro p e s m args below meth c s₁ B hml hv
  obtain ⟨ha, ⟨⟨hsz, hP, hK, hD0, hE0⟩, hC⟩, hN9⟩ := hv
  have hx := B.exec
  have hb := B.bytes
  have hr := B.returns
  have hlocks := B.notSynchronized
  have hts := atoms_spec (ws := wsL_stopped) B.pre
  have htab := vx_table (x := yL_stopped) B (hts (.codeWith yL_stopped cL_stopped 4 (some .int) [(0, 9, 12, 15)]) List.mem_cons_self)
  have hown : s.vm.findClass RL = some m.cls := findClass_of_methodNamed B.named
  have cx : CallFix p m c cL_stopped 4 s args wsL_stopped RL := ⟨hx, hb, hml, hown, hts⟩
  subst hsz
  have hD := hD0.self (sz := s.heap.size)
  generalize hAe : va_A ([(ao, .inl (T 3, 1, .inr (.inl f)))] ++ oC T (w, q, qz, h, qs, t, gr, u, tr, oc) (Sw, S, Z, Sh, Hs, X, Gg, U, K, O)) s.heap.size = A at hD hE0 ⊢
  have hE : gE A s s.heap := hE0
  have hA : ∀ q : Nat, s.heap.size ≤ q → A q := fun q h => by rw [← hAe]; exact Or.inr h
  have hS : va_S A s.heap s.heap [] := va_S.rf
  refine w_entry ha (Nat.le_of_ble_eq_true rfl) (fun ls hl => ?_)
  refine w_q (fun Q0 hQ => ?_)
  have hl : lv_has ls 4 [(0, .ref (w 0)), (1, .int (nI kk)), (2, .ref ao)] := hl
  refine w_h (fun H locs hHe hLe => ?_)
  have hP : va_P G vwCl ([(ao, .inl (T 3, 1, .inr (.inl f)))] ++ oC T (w, q, qz, h, qs, t, gr, u, tr, oc) (Sw, S, Z, Sh, Hs, X, Gg, U, K, O)) H := by rw [hHe]; exact hP
  have hS : va_S A s.heap H locs := by rw [hHe, hLe]; exact hS
  refine lv_aload_n hx hb dL_stopped_0 rfl (lv_at hl 2 rfl) ?_
  refine n_iconst hx hb 0 dL_stopped_1 (by decide) ?_
  refine lv_aload_n hx hb dL_stopped_2 rfl (lv_at hl 0 rfl) ?_
  refine lv_iload_n hx hb dL_stopped_3 rfl (lv_at hl 1 rfl) ?_
  refine k_rwV (As := [.int (nI kk)]) (rest := [.int (nI 0), .ref ao]) (wc := [(ao, .inl (T 3, 1, .inr (.inl f)))] ++ oC T (w, q, qz, h, qs, t, gr, u, tr, oc) (Sw, S, Z, Sh, Hs, X, Gg, U, K, O)) (wr := []) (w1 := [(ao, .inl (T 3, 1, .inr (.inl f)))] ++ oC T (w, q, qz, h, qs, t, gr, u, tr, oc) (Sw, S, Z, Sh, Hs, X, Gg, U, K, O)) (d := 0) (mc := 0) (ms := 0) (v := S 16 kk) cx (RWi.fr (w_X7_stopped l G T H.size w q qz h qs t gr u tr oc Sw S Z Sh Hs X Gg U K O kk hk9) (Fr.head [(ao, .inl (T 3, 1, .inr (.inl f)))] (oC T (w, q, qz, h, qs, t, gr, u, tr, oc) (Sw, S, Z, Sh, Hs, X, Gg, U, K, O)) (oC T (w, q, qz, h, qs, t, gr, u, tr, oc) (Sw, S, Z, Sh, Hs, X, Gg, U, K, O)))) (cwV 1 hts gL_stopped_X7_stopped rfl rfl rfl (by decide +kernel) ⟨Nat.le_of_ble_eq_true rfl, Nat.le_of_ble_eq_true rfl⟩) (kN_full hP hD hS hA hE hK) (va_recv hK hP (ci := 7) (q0 := 1) rfl rfl) rfl hl.1 rfl (Nat.le_of_ble_eq_true rfl) dL_stopped_4 ⟨Nat.le_of_ble_eq_true rfl, Nat.le_of_ble_eq_true rfl⟩ (fun H locs hP hD hS hz => ?_)
  have hP : va_P G vwCl ([(ao, .inl (T 3, 1, .inr (.inl f)))] ++ oC T (w, q, qz, h, qs, t, gr, u, tr, oc) (Sw, S, Z, Sh, Hs, X, Gg, U, K, O)) H := hP
  have hD : va_D A ([(ao, .inl (T 3, 1, .inr (.inl f)))] ++ oC T (w, q, qz, h, qs, t, gr, u, tr, oc) (Sw, S, Z, Sh, Hs, X, Gg, U, K, O)) := hD
  refine lv_i2l (v := (S 16 kk).toInt64) hx hb dL_stopped_7 rfl ?_
  refine va_last hx hb hK hP hD hS 0 3 rfl rfl (vp_in_nI (show 0 < 1 by decide) (by decide)) dL_stopped_8 (fun H locs hP hD hS => ?_)
  have hP : va_P G vwCl ([(ao, .inl (T 3, 1, .inr (.inl (vp_updL f 0 ((S 16 kk)).toInt64))))] ++ oC T (w, q, qz, h, qs, t, gr, u, tr, oc) (Sw, S, Z, Sh, Hs, X, Gg, U, K, O)) H := hP
  have hD : va_D A ([(ao, .inl (T 3, 1, .inr (.inl (vp_updL f 0 ((S 16 kk)).toInt64))))] ++ oC T (w, q, qz, h, qs, t, gr, u, tr, oc) (Sw, S, Z, Sh, Hs, X, Gg, U, K, O)) := hD
  refine lv_goto (tgt := 15) hx hb dL_stopped_9 (by decide) ?_
  refine n_iconst hx hb 0 dL_stopped_15 (by decide) ?_
  subst hQ
  exact vx_ret (W.widen (k := 1) (n := 6) (by decide) (by decide) (e_rwi hx hb hr hlocks hS rfl hP hD dL_stopped_16))
set_option maxHeartbeats 4000000 in
set_option maxRecDepth 100000 in
theorem c_L_stopped_t (l : Launch) (hst : l.stackTraces = false) (G : va_G) (T : Nat → ClassId) (sz ao : Nat) (f : Nat → Int64) (w : Nat → Nat) (q : Nat → Nat) (qz : Nat → Nat) (h : Nat → Nat) (qs : Nat → Nat → Nat) (t : Nat → Nat) (gr : Nat → Nat) (u : Nat → Nat) (tr : Nat → Nat) (oc : Nat → Nat) (Sw : Nat → Nat → Int32) (S : Nat → Nat → Int32) (Z : Nat → Nat → Int32) (Sh : Nat → Nat → Int32) (Hs : Nat → Nat → Nat → Int32) (X : Nat → Nat → Int32) (Gg : Nat → Nat → Int32) (U : Nat → Nat → Int32) (K : Nat → Nat → Int32) (O : Nat → Nat → Int32) (x : Int32) (hbx : pBt x 2 = false) : RWx l yL_stopped wsL_stopped 8 G T sz ([(ao, .inl (T 3, 1, .inr (.inl f)))] ++ oC T (w, q, qz, h, qs, t, gr, u, tr, oc) (Sw, S, Z, Sh, Hs, X, Gg, U, K, O)) [.ref (w 0), .int x, .ref ao] (nI 1) ([(ao, .inl (T 3, 1, .inr (.inl f)))] ++ oC T (w, q, qz, h, qs, t, gr, u, tr, oc) (Sw, S, Z, Sh, Hs, X, Gg, U, K, O)) := by
  refine met_vx (vx_ofWH (cc := cL_stopped) (maxL := 4) (ret := (some .int)) (by decide) rfl ?_)
  intro p e s m args below meth c s₁ B hml hv
  obtain ⟨ha, ⟨⟨hsz, hP, hK, hD0, hE0⟩, hC⟩, hN9⟩ := hv
  have hx := B.exec
  have hb := B.bytes
  have hr := B.returns
  have hlocks := B.notSynchronized
  have hts := atoms_spec (ws := wsL_stopped) B.pre
  have htab := vx_table (x := yL_stopped) B (hts (.codeWith yL_stopped cL_stopped 4 (some .int) [(0, 9, 12, 15)]) List.mem_cons_self)
  have hown : s.vm.findClass RL = some m.cls := findClass_of_methodNamed B.named
  have cx : CallFix p m c cL_stopped 4 s args wsL_stopped RL := ⟨hx, hb, hml, hown, hts⟩
  subst hsz
  have hD := hD0.self (sz := s.heap.size)
  generalize hAe : va_A ([(ao, .inl (T 3, 1, .inr (.inl f)))] ++ oC T (w, q, qz, h, qs, t, gr, u, tr, oc) (Sw, S, Z, Sh, Hs, X, Gg, U, K, O)) s.heap.size = A at hD hE0 ⊢
  have hE : gE A s s.heap := hE0
  have hA : ∀ q : Nat, s.heap.size ≤ q → A q := fun q h => by rw [← hAe]; exact Or.inr h
  have hS : va_S A s.heap s.heap [] := va_S.rf
  refine w_entry ha (Nat.le_of_ble_eq_true rfl) (fun ls hl => ?_)
  refine w_q (fun Q0 hQ => ?_)
  have hl : lv_has ls 4 [(0, .ref (w 0)), (1, .int x), (2, .ref ao)] := hl
  refine w_h (fun H locs hHe hLe => ?_)
  have hP : va_P G vwCl ([(ao, .inl (T 3, 1, .inr (.inl f)))] ++ oC T (w, q, qz, h, qs, t, gr, u, tr, oc) (Sw, S, Z, Sh, Hs, X, Gg, U, K, O)) H := by rw [hHe]; exact hP
  have hS : va_S A s.heap H locs := by rw [hHe, hLe]; exact hS
  refine lv_aload_n hx hb dL_stopped_0 rfl (lv_at hl 2 rfl) ?_
  refine n_iconst hx hb 0 dL_stopped_1 (by decide) ?_
  refine lv_aload_n hx hb dL_stopped_2 rfl (lv_at hl 0 rfl) ?_
  refine lv_iload_n hx hb dL_stopped_3 rfl (lv_at hl 1 rfl) ?_
  refine k_rxV (As := [.int x]) (rest := [.int (nI 0), .ref ao]) (wc := [(ao, .inl (T 3, 1, .inr (.inl f)))] ++ oC T (w, q, qz, h, qs, t, gr, u, tr, oc) (Sw, S, Z, Sh, Hs, X, Gg, U, K, O)) (wr := []) (w1 := [(ao, .inl (T 3, 1, .inr (.inl f)))] ++ oC T (w, q, qz, h, qs, t, gr, u, tr, oc) (Sw, S, Z, Sh, Hs, X, Gg, U, K, O)) (d := 7) cx (RX.fr (w_X7_stopped_t l hst G T H.size w q qz h qs t gr u tr oc Sw S Z Sh Hs X Gg U K O x hbx) (Fr.head [(ao, .inl (T 3, 1, .inr (.inl f)))] (oC T (w, q, qz, h, qs, t, gr, u, tr, oc) (Sw, S, Z, Sh, Hs, X, Gg, U, K, O)) (oC T (w, q, qz, h, qs, t, gr, u, tr, oc) (Sw, S, Z, Sh, Hs, X, Gg, U, K, O)))) (cwV 1 hts gL_stopped_X7_stopped rfl rfl rfl (by decide +kernel) ⟨Nat.le_of_ble_eq_true rfl, Nat.le_of_ble_eq_true rfl⟩) (kN_full hP hD hS hA hE hK) hC (va_recv hK hP (ci := 7) (q0 := 1) rfl rfl) rfl hl.1 rfl (Nat.le_of_ble_eq_true rfl) dL_stopped_4 ⟨Nat.le_of_ble_eq_true rfl, Nat.le_of_ble_eq_true rfl⟩ (fun E9 ce q9 H locs he hP hD hS h1 h2 h3 => ?_) (fun v H locs he => by cases he)
  cases he
  refine vx_catch (own := RL) (name := "java/lang/IllegalArgumentException") (E := "java/lang/IllegalArgumentException") hown [] ⟨0, 9, 12, 15⟩ [] (htab.trans rfl) (fun _ h9 => by cases h9) (by decide) (by decide) (hts (.classLink RL 15 "java/lang/IllegalArgumentException") (by decide +kernel)) (va_Nw.use rfl (hC.1 "java/lang/IllegalArgumentException" (by decide))) h1 h2 h3 ?_
  refine lv_astore_n (lv' := [(3, .ref q9), (0, .ref (w 0)), (1, .int x), (2, .ref ao)]) hx hb dL_stopped_12 rfl hl (by decide) rfl (fun ls hl => ?_)
  refine n_iconst hx hb 1 dL_stopped_13 (by decide) ?_
  subst hQ
  exact vx_ret (W.widen (k := 1) (n := 6) (by decide) (by decide) (e_rwi hx hb hr hlocks hS rfl hP hD dL_stopped_14))
set_option maxHeartbeats 4000000 in
set_option maxRecDepth 100000 in
theorem c_L_latest (l : Launch) (hst : l.stackTraces = false) (G : va_G) (T : Nat → ClassId) (sz ao : Nat) (f : Nat → Int64) (w : Nat → Nat) (q : Nat → Nat) (qz : Nat → Nat) (h : Nat → Nat) (qs : Nat → Nat → Nat) (t : Nat → Nat) (gr : Nat → Nat) (u : Nat → Nat) (tr : Nat → Nat) (oc : Nat → Nat) (Sw : Nat → Nat → Int32) (S : Nat → Nat → Int32) (Z : Nat → Nat → Int32) (Sh : Nat → Nat → Int32) (Hs : Nat → Nat → Nat → Int32) (X : Nat → Nat → Int32) (Gg : Nat → Nat → Int32) (U : Nat → Nat → Int32) (K : Nat → Nat → Int32) (O : Nat → Nat → Int32) (kk : Nat) (hk9 : kk < 6) : RWx l yL_latest wsL_latest 1 G T sz ([(ao, .inl (T 3, 1, .inr (.inl f)))] ++ oC T (w, q, qz, h, qs, t, gr, u, tr, oc) (Sw, S, Z, Sh, Hs, X, Gg, U, K, O)) [.ref (w 0), .int (nI kk), .ref ao] (nI 0) ([(ao, .inl (T 3, 1, .inr (.inl (vp_updL f 0 ((S 15 kk)).toInt64))))] ++ oC T (w, q, qz, h, qs, t, gr, u, tr, oc) (Sw, S, Z, Sh, Hs, X, Gg, U, K, O)) := by
  refine met_vx (vx_ofWH (cc := cL_latest) (maxL := 4) (ret := (some .int)) (by decide) rfl ?_)
  intro p e s m args below meth c s₁ B hml hv
  obtain ⟨ha, ⟨⟨hsz, hP, hK, hD0, hE0⟩, hC⟩, hN9⟩ := hv
  have hx := B.exec
  have hb := B.bytes
  have hr := B.returns
  have hlocks := B.notSynchronized
  have hts := atoms_spec (ws := wsL_latest) B.pre
  have htab := vx_table (x := yL_latest) B (hts (.codeWith yL_latest cL_latest 4 (some .int) [(0, 9, 12, 15)]) List.mem_cons_self)
  have hown : s.vm.findClass RL = some m.cls := findClass_of_methodNamed B.named
  have cx : CallFix p m c cL_latest 4 s args wsL_latest RL := ⟨hx, hb, hml, hown, hts⟩
  subst hsz
  have hD := hD0.self (sz := s.heap.size)
  generalize hAe : va_A ([(ao, .inl (T 3, 1, .inr (.inl f)))] ++ oC T (w, q, qz, h, qs, t, gr, u, tr, oc) (Sw, S, Z, Sh, Hs, X, Gg, U, K, O)) s.heap.size = A at hD hE0 ⊢
  have hE : gE A s s.heap := hE0
  have hA : ∀ q : Nat, s.heap.size ≤ q → A q := fun q h => by rw [← hAe]; exact Or.inr h
  have hS : va_S A s.heap s.heap [] := va_S.rf
  refine w_entry ha (Nat.le_of_ble_eq_true rfl) (fun ls hl => ?_)
  refine w_q (fun Q0 hQ => ?_)
  have hl : lv_has ls 4 [(0, .ref (w 0)), (1, .int (nI kk)), (2, .ref ao)] := hl
  refine w_h (fun H locs hHe hLe => ?_)
  have hP : va_P G vwCl ([(ao, .inl (T 3, 1, .inr (.inl f)))] ++ oC T (w, q, qz, h, qs, t, gr, u, tr, oc) (Sw, S, Z, Sh, Hs, X, Gg, U, K, O)) H := by rw [hHe]; exact hP
  have hS : va_S A s.heap H locs := by rw [hHe, hLe]; exact hS
  refine lv_aload_n hx hb dL_latest_0 rfl (lv_at hl 2 rfl) ?_
  refine n_iconst hx hb 0 dL_latest_1 (by decide) ?_
  refine lv_aload_n hx hb dL_latest_2 rfl (lv_at hl 0 rfl) ?_
  refine lv_iload_n hx hb dL_latest_3 rfl (lv_at hl 1 rfl) ?_
  refine k_rwV (As := [.int (nI kk)]) (rest := [.int (nI 0), .ref ao]) (wc := [(ao, .inl (T 3, 1, .inr (.inl f)))] ++ oC T (w, q, qz, h, qs, t, gr, u, tr, oc) (Sw, S, Z, Sh, Hs, X, Gg, U, K, O)) (wr := []) (w1 := [(ao, .inl (T 3, 1, .inr (.inl f)))] ++ oC T (w, q, qz, h, qs, t, gr, u, tr, oc) (Sw, S, Z, Sh, Hs, X, Gg, U, K, O)) (d := 0) (mc := 0) (ms := 0) (v := S 15 kk) cx (RWi.fr (w_X7_latest l G T H.size w q qz h qs t gr u tr oc Sw S Z Sh Hs X Gg U K O kk hk9) (Fr.head [(ao, .inl (T 3, 1, .inr (.inl f)))] (oC T (w, q, qz, h, qs, t, gr, u, tr, oc) (Sw, S, Z, Sh, Hs, X, Gg, U, K, O)) (oC T (w, q, qz, h, qs, t, gr, u, tr, oc) (Sw, S, Z, Sh, Hs, X, Gg, U, K, O)))) (cwV 1 hts gL_latest_X7_latest rfl rfl rfl (by decide +kernel) ⟨Nat.le_of_ble_eq_true rfl, Nat.le_of_ble_eq_true rfl⟩) (kN_full hP hD hS hA hE hK) (va_recv hK hP (ci := 7) (q0 := 1) rfl rfl) rfl hl.1 rfl (Nat.le_of_ble_eq_true rfl) dL_latest_4 ⟨Nat.le_of_ble_eq_true rfl, Nat.le_of_ble_eq_true rfl⟩ (fun H locs hP hD hS hz => ?_)
  have hP : va_P G vwCl ([(ao, .inl (T 3, 1, .inr (.inl f)))] ++ oC T (w, q, qz, h, qs, t, gr, u, tr, oc) (Sw, S, Z, Sh, Hs, X, Gg, U, K, O)) H := hP
  have hD : va_D A ([(ao, .inl (T 3, 1, .inr (.inl f)))] ++ oC T (w, q, qz, h, qs, t, gr, u, tr, oc) (Sw, S, Z, Sh, Hs, X, Gg, U, K, O)) := hD
  refine lv_i2l (v := (S 15 kk).toInt64) hx hb dL_latest_7 rfl ?_
  refine va_last hx hb hK hP hD hS 0 3 rfl rfl (vp_in_nI (show 0 < 1 by decide) (by decide)) dL_latest_8 (fun H locs hP hD hS => ?_)
  have hP : va_P G vwCl ([(ao, .inl (T 3, 1, .inr (.inl (vp_updL f 0 ((S 15 kk)).toInt64))))] ++ oC T (w, q, qz, h, qs, t, gr, u, tr, oc) (Sw, S, Z, Sh, Hs, X, Gg, U, K, O)) H := hP
  have hD : va_D A ([(ao, .inl (T 3, 1, .inr (.inl (vp_updL f 0 ((S 15 kk)).toInt64))))] ++ oC T (w, q, qz, h, qs, t, gr, u, tr, oc) (Sw, S, Z, Sh, Hs, X, Gg, U, K, O)) := hD
  refine lv_goto (tgt := 15) hx hb dL_latest_9 (by decide) ?_
  refine n_iconst hx hb 0 dL_latest_15 (by decide) ?_
  subst hQ
  exact vx_ret (W.widen (k := 1) (n := 6) (by decide) (by decide) (e_rwi hx hb hr hlocks hS rfl hP hD dL_latest_16))
set_option maxHeartbeats 4000000 in
set_option maxRecDepth 100000 in
theorem c_L_latest_t (l : Launch) (hst : l.stackTraces = false) (G : va_G) (T : Nat → ClassId) (sz ao : Nat) (f : Nat → Int64) (w : Nat → Nat) (q : Nat → Nat) (qz : Nat → Nat) (h : Nat → Nat) (qs : Nat → Nat → Nat) (t : Nat → Nat) (gr : Nat → Nat) (u : Nat → Nat) (tr : Nat → Nat) (oc : Nat → Nat) (Sw : Nat → Nat → Int32) (S : Nat → Nat → Int32) (Z : Nat → Nat → Int32) (Sh : Nat → Nat → Int32) (Hs : Nat → Nat → Nat → Int32) (X : Nat → Nat → Int32) (Gg : Nat → Nat → Int32) (U : Nat → Nat → Int32) (K : Nat → Nat → Int32) (O : Nat → Nat → Int32) (x : Int32) (hbx : pBt x 6 = false) : RWx l yL_latest wsL_latest 8 G T sz ([(ao, .inl (T 3, 1, .inr (.inl f)))] ++ oC T (w, q, qz, h, qs, t, gr, u, tr, oc) (Sw, S, Z, Sh, Hs, X, Gg, U, K, O)) [.ref (w 0), .int x, .ref ao] (nI 1) ([(ao, .inl (T 3, 1, .inr (.inl f)))] ++ oC T (w, q, qz, h, qs, t, gr, u, tr, oc) (Sw, S, Z, Sh, Hs, X, Gg, U, K, O)) := by
  refine met_vx (vx_ofWH (cc := cL_latest) (maxL := 4) (ret := (some .int)) (by decide) rfl ?_)
  intro p e s m args below meth c s₁ B hml hv
  obtain ⟨ha, ⟨⟨hsz, hP, hK, hD0, hE0⟩, hC⟩, hN9⟩ := hv
  have hx := B.exec
  have hb := B.bytes
  have hr := B.returns
  have hlocks := B.notSynchronized
  have hts := atoms_spec (ws := wsL_latest) B.pre
  have htab := vx_table (x := yL_latest) B (hts (.codeWith yL_latest cL_latest 4 (some .int) [(0, 9, 12, 15)]) List.mem_cons_self)
  have hown : s.vm.findClass RL = some m.cls := findClass_of_methodNamed B.named
  have cx : CallFix p m c cL_latest 4 s args wsL_latest RL := ⟨hx, hb, hml, hown, hts⟩
  subst hsz
  have hD := hD0.self (sz := s.heap.size)
  generalize hAe : va_A ([(ao, .inl (T 3, 1, .inr (.inl f)))] ++ oC T (w, q, qz, h, qs, t, gr, u, tr, oc) (Sw, S, Z, Sh, Hs, X, Gg, U, K, O)) s.heap.size = A at hD hE0 ⊢
  have hE : gE A s s.heap := hE0
  have hA : ∀ q : Nat, s.heap.size ≤ q → A q := fun q h => by rw [← hAe]; exact Or.inr h
  have hS : va_S A s.heap s.heap [] := va_S.rf
  refine w_entry ha (Nat.le_of_ble_eq_true rfl) (fun ls hl => ?_)
  refine w_q (fun Q0 hQ => ?_)
  have hl : lv_has ls 4 [(0, .ref (w 0)), (1, .int x), (2, .ref ao)] := hl
  refine w_h (fun H locs hHe hLe => ?_)
  have hP : va_P G vwCl ([(ao, .inl (T 3, 1, .inr (.inl f)))] ++ oC T (w, q, qz, h, qs, t, gr, u, tr, oc) (Sw, S, Z, Sh, Hs, X, Gg, U, K, O)) H := by rw [hHe]; exact hP
  have hS : va_S A s.heap H locs := by rw [hHe, hLe]; exact hS
  refine lv_aload_n hx hb dL_latest_0 rfl (lv_at hl 2 rfl) ?_
  refine n_iconst hx hb 0 dL_latest_1 (by decide) ?_
  refine lv_aload_n hx hb dL_latest_2 rfl (lv_at hl 0 rfl) ?_
  refine lv_iload_n hx hb dL_latest_3 rfl (lv_at hl 1 rfl) ?_
  refine k_rxV (As := [.int x]) (rest := [.int (nI 0), .ref ao]) (wc := [(ao, .inl (T 3, 1, .inr (.inl f)))] ++ oC T (w, q, qz, h, qs, t, gr, u, tr, oc) (Sw, S, Z, Sh, Hs, X, Gg, U, K, O)) (wr := []) (w1 := [(ao, .inl (T 3, 1, .inr (.inl f)))] ++ oC T (w, q, qz, h, qs, t, gr, u, tr, oc) (Sw, S, Z, Sh, Hs, X, Gg, U, K, O)) (d := 7) cx (RX.fr (w_X7_latest_t l hst G T H.size w q qz h qs t gr u tr oc Sw S Z Sh Hs X Gg U K O x hbx) (Fr.head [(ao, .inl (T 3, 1, .inr (.inl f)))] (oC T (w, q, qz, h, qs, t, gr, u, tr, oc) (Sw, S, Z, Sh, Hs, X, Gg, U, K, O)) (oC T (w, q, qz, h, qs, t, gr, u, tr, oc) (Sw, S, Z, Sh, Hs, X, Gg, U, K, O)))) (cwV 1 hts gL_latest_X7_latest rfl rfl rfl (by decide +kernel) ⟨Nat.le_of_ble_eq_true rfl, Nat.le_of_ble_eq_true rfl⟩) (kN_full hP hD hS hA hE hK) hC (va_recv hK hP (ci := 7) (q0 := 1) rfl rfl) rfl hl.1 rfl (Nat.le_of_ble_eq_true rfl) dL_latest_4 ⟨Nat.le_of_ble_eq_true rfl, Nat.le_of_ble_eq_true rfl⟩ (fun E9 ce q9 H locs he hP hD hS h1 h2 h3 => ?_) (fun v H locs he => by cases he)
  cases he
  refine vx_catch (own := RL) (name := "java/lang/IllegalArgumentException") (E := "java/lang/IllegalArgumentException") hown [] ⟨0, 9, 12, 15⟩ [] (htab.trans rfl) (fun _ h9 => by cases h9) (by decide) (by decide) (hts (.classLink RL 15 "java/lang/IllegalArgumentException") (by decide +kernel)) (va_Nw.use rfl (hC.1 "java/lang/IllegalArgumentException" (by decide))) h1 h2 h3 ?_
  refine lv_astore_n (lv' := [(3, .ref q9), (0, .ref (w 0)), (1, .int x), (2, .ref ao)]) hx hb dL_latest_12 rfl hl (by decide) rfl (fun ls hl => ?_)
  refine n_iconst hx hb 1 dL_latest_13 (by decide) ?_
  subst hQ
  exact vx_ret (W.widen (k := 1) (n := 6) (by decide) (by decide) (e_rwi hx hb hr hlocks hS rfl hP hD dL_latest_14))
set_option maxHeartbeats 4000000 in
set_option maxRecDepth 100000 in
theorem c_L_message (l : Launch) (hst : l.stackTraces = false) (G : va_G) (T : Nat → ClassId) (sz ao : Nat) (f : Nat → Int64) (w : Nat → Nat) (q : Nat → Nat) (qz : Nat → Nat) (h : Nat → Nat) (qs : Nat → Nat → Nat) (t : Nat → Nat) (gr : Nat → Nat) (u : Nat → Nat) (tr : Nat → Nat) (oc : Nat → Nat) (Sw : Nat → Nat → Int32) (S : Nat → Nat → Int32) (Z : Nat → Nat → Int32) (Sh : Nat → Nat → Int32) (Hs : Nat → Nat → Nat → Int32) (X : Nat → Nat → Int32) (Gg : Nat → Nat → Int32) (U : Nat → Nat → Int32) (K : Nat → Nat → Int32) (O : Nat → Nat → Int32) (mm : Nat) (kk : Nat) (hm20 : mm < 20) (hk9 : kk < 4) : RWx l yL_message wsL_message 2 G T sz ([(ao, .inl (T 3, 1, .inr (.inl f)))] ++ oC T (w, q, qz, h, qs, t, gr, u, tr, oc) (Sw, S, Z, Sh, Hs, X, Gg, U, K, O)) [.ref (w 0), .int (nI mm), .int (nI kk), .ref ao] (nI 0) ([(ao, .inl (T 3, 1, .inr (.inl (vp_updL f 0 ((pMsg S mm kk)).toInt64))))] ++ oC T (w, q, qz, h, qs, t, gr, u, tr, oc) (Sw, S, Z, Sh, Hs, X, Gg, U, K, O)) := by
  refine met_vx (vx_ofWH (cc := cL_message) (maxL := 5) (ret := (some .int)) (by decide) rfl ?_)
  intro p e s m args below meth c s₁ B hml hv
  obtain ⟨ha, ⟨⟨hsz, hP, hK, hD0, hE0⟩, hC⟩, hN9⟩ := hv
  have hx := B.exec
  have hb := B.bytes
  have hr := B.returns
  have hlocks := B.notSynchronized
  have hts := atoms_spec (ws := wsL_message) B.pre
  have htab := vx_table (x := yL_message) B (hts (.codeWith yL_message cL_message 5 (some .int) [(0, 10, 13, 13), (0, 10, 17, 15)]) List.mem_cons_self)
  have hown : s.vm.findClass RL = some m.cls := findClass_of_methodNamed B.named
  have cx : CallFix p m c cL_message 5 s args wsL_message RL := ⟨hx, hb, hml, hown, hts⟩
  subst hsz
  have hD := hD0.self (sz := s.heap.size)
  generalize hAe : va_A ([(ao, .inl (T 3, 1, .inr (.inl f)))] ++ oC T (w, q, qz, h, qs, t, gr, u, tr, oc) (Sw, S, Z, Sh, Hs, X, Gg, U, K, O)) s.heap.size = A at hD hE0 ⊢
  have hE : gE A s s.heap := hE0
  have hA : ∀ q : Nat, s.heap.size ≤ q → A q := fun q h => by rw [← hAe]; exact Or.inr h
  have hS : va_S A s.heap s.heap [] := va_S.rf
  refine w_entry ha (Nat.le_of_ble_eq_true rfl) (fun ls hl => ?_)
  refine w_q (fun Q0 hQ => ?_)
  have hl : lv_has ls 5 [(0, .ref (w 0)), (1, .int (nI mm)), (2, .int (nI kk)), (3, .ref ao)] := hl
  refine w_h (fun H locs hHe hLe => ?_)
  have hP : va_P G vwCl ([(ao, .inl (T 3, 1, .inr (.inl f)))] ++ oC T (w, q, qz, h, qs, t, gr, u, tr, oc) (Sw, S, Z, Sh, Hs, X, Gg, U, K, O)) H := by rw [hHe]; exact hP
  have hS : va_S A s.heap H locs := by rw [hHe, hLe]; exact hS
  refine lv_aload_n hx hb dL_message_0 rfl (lv_at hl 3 rfl) ?_
  refine n_iconst hx hb 0 dL_message_1 (by decide) ?_
  refine lv_aload_n hx hb dL_message_2 rfl (lv_at hl 0 rfl) ?_
  refine lv_iload_n hx hb dL_message_3 rfl (lv_at hl 1 rfl) ?_
  refine lv_iload_n hx hb dL_message_4 rfl (lv_at hl 2 rfl) ?_
  refine k_rwV (As := [.int (nI mm), .int (nI kk)]) (rest := [.int (nI 0), .ref ao]) (wc := [(ao, .inl (T 3, 1, .inr (.inl f)))] ++ oC T (w, q, qz, h, qs, t, gr, u, tr, oc) (Sw, S, Z, Sh, Hs, X, Gg, U, K, O)) (wr := []) (w1 := [(ao, .inl (T 3, 1, .inr (.inl f)))] ++ oC T (w, q, qz, h, qs, t, gr, u, tr, oc) (Sw, S, Z, Sh, Hs, X, Gg, U, K, O)) (d := 1) (mc := 0) (ms := 0) (v := pMsg S mm kk) cx (RWi.fr (w_X7_message l G T H.size w q qz h qs t gr u tr oc Sw S Z Sh Hs X Gg U K O mm kk hm20 hk9) (Fr.head [(ao, .inl (T 3, 1, .inr (.inl f)))] (oC T (w, q, qz, h, qs, t, gr, u, tr, oc) (Sw, S, Z, Sh, Hs, X, Gg, U, K, O)) (oC T (w, q, qz, h, qs, t, gr, u, tr, oc) (Sw, S, Z, Sh, Hs, X, Gg, U, K, O)))) (cwV 2 hts gL_message_X7_message rfl rfl rfl (by decide +kernel) ⟨Nat.le_of_ble_eq_true rfl, Nat.le_of_ble_eq_true rfl⟩) (kN_full hP hD hS hA hE hK) (va_recv hK hP (ci := 7) (q0 := 1) rfl rfl) rfl hl.1 rfl (Nat.le_of_ble_eq_true rfl) dL_message_5 ⟨Nat.le_of_ble_eq_true rfl, Nat.le_of_ble_eq_true rfl⟩ (fun H locs hP hD hS hz => ?_)
  have hP : va_P G vwCl ([(ao, .inl (T 3, 1, .inr (.inl f)))] ++ oC T (w, q, qz, h, qs, t, gr, u, tr, oc) (Sw, S, Z, Sh, Hs, X, Gg, U, K, O)) H := hP
  have hD : va_D A ([(ao, .inl (T 3, 1, .inr (.inl f)))] ++ oC T (w, q, qz, h, qs, t, gr, u, tr, oc) (Sw, S, Z, Sh, Hs, X, Gg, U, K, O)) := hD
  refine lv_i2l (v := (pMsg S mm kk).toInt64) hx hb dL_message_8 rfl ?_
  refine va_last hx hb hK hP hD hS 0 3 rfl rfl (vp_in_nI (show 0 < 1 by decide) (by decide)) dL_message_9 (fun H locs hP hD hS => ?_)
  have hP : va_P G vwCl ([(ao, .inl (T 3, 1, .inr (.inl (vp_updL f 0 ((pMsg S mm kk)).toInt64))))] ++ oC T (w, q, qz, h, qs, t, gr, u, tr, oc) (Sw, S, Z, Sh, Hs, X, Gg, U, K, O)) H := hP
  have hD : va_D A ([(ao, .inl (T 3, 1, .inr (.inl (vp_updL f 0 ((pMsg S mm kk)).toInt64))))] ++ oC T (w, q, qz, h, qs, t, gr, u, tr, oc) (Sw, S, Z, Sh, Hs, X, Gg, U, K, O)) := hD
  refine lv_goto (tgt := 21) hx hb dL_message_10 (by decide) ?_
  refine n_iconst hx hb 0 dL_message_21 (by decide) ?_
  subst hQ
  exact vx_ret (W.widen (k := 1) (n := 6) (by decide) (by decide) (e_rwi hx hb hr hlocks hS rfl hP hD dL_message_22))
set_option maxHeartbeats 4000000 in
set_option maxRecDepth 100000 in
theorem c_L_message_t (l : Launch) (hst : l.stackTraces = false) (G : va_G) (T : Nat → ClassId) (sz ao : Nat) (f : Nat → Int64) (w : Nat → Nat) (q : Nat → Nat) (qz : Nat → Nat) (h : Nat → Nat) (qs : Nat → Nat → Nat) (t : Nat → Nat) (gr : Nat → Nat) (u : Nat → Nat) (tr : Nat → Nat) (oc : Nat → Nat) (Sw : Nat → Nat → Int32) (S : Nat → Nat → Int32) (Z : Nat → Nat → Int32) (Sh : Nat → Nat → Int32) (Hs : Nat → Nat → Nat → Int32) (X : Nat → Nat → Int32) (Gg : Nat → Nat → Int32) (U : Nat → Nat → Int32) (K : Nat → Nat → Int32) (O : Nat → Nat → Int32) (x : Int32) (y : Int32) (hbx : pBt x 20 = false) : RWx l yL_message wsL_message 8 G T sz ([(ao, .inl (T 3, 1, .inr (.inl f)))] ++ oC T (w, q, qz, h, qs, t, gr, u, tr, oc) (Sw, S, Z, Sh, Hs, X, Gg, U, K, O)) [.ref (w 0), .int x, .int y, .ref ao] (nI 1) ([(ao, .inl (T 3, 1, .inr (.inl f)))] ++ oC T (w, q, qz, h, qs, t, gr, u, tr, oc) (Sw, S, Z, Sh, Hs, X, Gg, U, K, O)) := by
  refine met_vx (vx_ofWH (cc := cL_message) (maxL := 5) (ret := (some .int)) (by decide) rfl ?_)
  intro p e s m args below meth c s₁ B hml hv
  obtain ⟨ha, ⟨⟨hsz, hP, hK, hD0, hE0⟩, hC⟩, hN9⟩ := hv
  have hx := B.exec
  have hb := B.bytes
  have hr := B.returns
  have hlocks := B.notSynchronized
  have hts := atoms_spec (ws := wsL_message) B.pre
  have htab := vx_table (x := yL_message) B (hts (.codeWith yL_message cL_message 5 (some .int) [(0, 10, 13, 13), (0, 10, 17, 15)]) List.mem_cons_self)
  have hown : s.vm.findClass RL = some m.cls := findClass_of_methodNamed B.named
  have cx : CallFix p m c cL_message 5 s args wsL_message RL := ⟨hx, hb, hml, hown, hts⟩
  subst hsz
  have hD := hD0.self (sz := s.heap.size)
  generalize hAe : va_A ([(ao, .inl (T 3, 1, .inr (.inl f)))] ++ oC T (w, q, qz, h, qs, t, gr, u, tr, oc) (Sw, S, Z, Sh, Hs, X, Gg, U, K, O)) s.heap.size = A at hD hE0 ⊢
  have hE : gE A s s.heap := hE0
  have hA : ∀ q : Nat, s.heap.size ≤ q → A q := fun q h => by rw [← hAe]; exact Or.inr h
  have hS : va_S A s.heap s.heap [] := va_S.rf
  refine w_entry ha (Nat.le_of_ble_eq_true rfl) (fun ls hl => ?_)
  refine w_q (fun Q0 hQ => ?_)
  have hl : lv_has ls 5 [(0, .ref (w 0)), (1, .int x), (2, .int y), (3, .ref ao)] := hl
  refine w_h (fun H locs hHe hLe => ?_)
  have hP : va_P G vwCl ([(ao, .inl (T 3, 1, .inr (.inl f)))] ++ oC T (w, q, qz, h, qs, t, gr, u, tr, oc) (Sw, S, Z, Sh, Hs, X, Gg, U, K, O)) H := by rw [hHe]; exact hP
  have hS : va_S A s.heap H locs := by rw [hHe, hLe]; exact hS
  refine lv_aload_n hx hb dL_message_0 rfl (lv_at hl 3 rfl) ?_
  refine n_iconst hx hb 0 dL_message_1 (by decide) ?_
  refine lv_aload_n hx hb dL_message_2 rfl (lv_at hl 0 rfl) ?_
  refine lv_iload_n hx hb dL_message_3 rfl (lv_at hl 1 rfl) ?_
  refine lv_iload_n hx hb dL_message_4 rfl (lv_at hl 2 rfl) ?_
  refine k_rxV (As := [.int x, .int y]) (rest := [.int (nI 0), .ref ao]) (wc := [(ao, .inl (T 3, 1, .inr (.inl f)))] ++ oC T (w, q, qz, h, qs, t, gr, u, tr, oc) (Sw, S, Z, Sh, Hs, X, Gg, U, K, O)) (wr := []) (w1 := [(ao, .inl (T 3, 1, .inr (.inl f)))] ++ oC T (w, q, qz, h, qs, t, gr, u, tr, oc) (Sw, S, Z, Sh, Hs, X, Gg, U, K, O)) (d := 7) cx (RX.fr (w_X7_message_t l hst G T H.size w q qz h qs t gr u tr oc Sw S Z Sh Hs X Gg U K O x y hbx) (Fr.head [(ao, .inl (T 3, 1, .inr (.inl f)))] (oC T (w, q, qz, h, qs, t, gr, u, tr, oc) (Sw, S, Z, Sh, Hs, X, Gg, U, K, O)) (oC T (w, q, qz, h, qs, t, gr, u, tr, oc) (Sw, S, Z, Sh, Hs, X, Gg, U, K, O)))) (cwV 2 hts gL_message_X7_message rfl rfl rfl (by decide +kernel) ⟨Nat.le_of_ble_eq_true rfl, Nat.le_of_ble_eq_true rfl⟩) (kN_full hP hD hS hA hE hK) hC (va_recv hK hP (ci := 7) (q0 := 1) rfl rfl) rfl hl.1 rfl (Nat.le_of_ble_eq_true rfl) dL_message_5 ⟨Nat.le_of_ble_eq_true rfl, Nat.le_of_ble_eq_true rfl⟩ (fun E9 ce q9 H locs he hP hD hS h1 h2 h3 => ?_) (fun v H locs he => by cases he)
  cases he
  refine vx_catch (own := RL) (name := "java/lang/IndexOutOfBoundsException") (E := "java/lang/IndexOutOfBoundsException") hown [] ⟨0, 10, 13, 13⟩ [⟨0, 10, 17, 15⟩] (htab.trans rfl) (fun _ h9 => by cases h9) (by decide) (by decide) (hts (.classLink RL 13 "java/lang/IndexOutOfBoundsException") (by decide +kernel)) (va_Nw.use rfl (hC.1 "java/lang/IndexOutOfBoundsException" (by decide))) h1 h2 h3 ?_
  refine lv_astore (lv' := [(4, .ref q9), (0, .ref (w 0)), (1, .int x), (2, .int y), (3, .ref ao)]) hx hb dL_message_13 hl (by decide) rfl (fun ls hl => ?_)
  refine n_iconst hx hb 1 dL_message_15 (by decide) ?_
  subst hQ
  exact vx_ret (W.widen (k := 1) (n := 6) (by decide) (by decide) (e_rwi hx hb hr hlocks hS rfl hP hD dL_message_16))
set_option maxHeartbeats 4000000 in
set_option maxRecDepth 100000 in
theorem c_L_message_t2 (l : Launch) (hst : l.stackTraces = false) (G : va_G) (T : Nat → ClassId) (sz ao : Nat) (f : Nat → Int64) (w : Nat → Nat) (q : Nat → Nat) (qz : Nat → Nat) (h : Nat → Nat) (qs : Nat → Nat → Nat) (t : Nat → Nat) (gr : Nat → Nat) (u : Nat → Nat) (tr : Nat → Nat) (oc : Nat → Nat) (Sw : Nat → Nat → Int32) (S : Nat → Nat → Int32) (Z : Nat → Nat → Int32) (Sh : Nat → Nat → Int32) (Hs : Nat → Nat → Nat → Int32) (X : Nat → Nat → Int32) (Gg : Nat → Nat → Int32) (U : Nat → Nat → Int32) (K : Nat → Nat → Int32) (O : Nat → Nat → Int32) (mm : Nat) (y : Int32) (hm20 : mm < 20) (hby : pBt y 4 = false) : RWx l yL_message wsL_message 8 G T sz ([(ao, .inl (T 3, 1, .inr (.inl f)))] ++ oC T (w, q, qz, h, qs, t, gr, u, tr, oc) (Sw, S, Z, Sh, Hs, X, Gg, U, K, O)) [.ref (w 0), .int (nI mm), .int y, .ref ao] (nI 2) ([(ao, .inl (T 3, 1, .inr (.inl f)))] ++ oC T (w, q, qz, h, qs, t, gr, u, tr, oc) (Sw, S, Z, Sh, Hs, X, Gg, U, K, O)) := by
  refine met_vx (vx_ofWH (cc := cL_message) (maxL := 5) (ret := (some .int)) (by decide) rfl ?_)
  intro p e s m args below meth c s₁ B hml hv
  obtain ⟨ha, ⟨⟨hsz, hP, hK, hD0, hE0⟩, hC⟩, hN9⟩ := hv
  have hx := B.exec
  have hb := B.bytes
  have hr := B.returns
  have hlocks := B.notSynchronized
  have hts := atoms_spec (ws := wsL_message) B.pre
  have htab := vx_table (x := yL_message) B (hts (.codeWith yL_message cL_message 5 (some .int) [(0, 10, 13, 13), (0, 10, 17, 15)]) List.mem_cons_self)
  have hown : s.vm.findClass RL = some m.cls := findClass_of_methodNamed B.named
  have cx : CallFix p m c cL_message 5 s args wsL_message RL := ⟨hx, hb, hml, hown, hts⟩
  subst hsz
  have hD := hD0.self (sz := s.heap.size)
  generalize hAe : va_A ([(ao, .inl (T 3, 1, .inr (.inl f)))] ++ oC T (w, q, qz, h, qs, t, gr, u, tr, oc) (Sw, S, Z, Sh, Hs, X, Gg, U, K, O)) s.heap.size = A at hD hE0 ⊢
  have hE : gE A s s.heap := hE0
  have hA : ∀ q : Nat, s.heap.size ≤ q → A q := fun q h => by rw [← hAe]; exact Or.inr h
  have hS : va_S A s.heap s.heap [] := va_S.rf
  refine w_entry ha (Nat.le_of_ble_eq_true rfl) (fun ls hl => ?_)
  refine w_q (fun Q0 hQ => ?_)
  have hl : lv_has ls 5 [(0, .ref (w 0)), (1, .int (nI mm)), (2, .int y), (3, .ref ao)] := hl
  refine w_h (fun H locs hHe hLe => ?_)
  have hP : va_P G vwCl ([(ao, .inl (T 3, 1, .inr (.inl f)))] ++ oC T (w, q, qz, h, qs, t, gr, u, tr, oc) (Sw, S, Z, Sh, Hs, X, Gg, U, K, O)) H := by rw [hHe]; exact hP
  have hS : va_S A s.heap H locs := by rw [hHe, hLe]; exact hS
  refine lv_aload_n hx hb dL_message_0 rfl (lv_at hl 3 rfl) ?_
  refine n_iconst hx hb 0 dL_message_1 (by decide) ?_
  refine lv_aload_n hx hb dL_message_2 rfl (lv_at hl 0 rfl) ?_
  refine lv_iload_n hx hb dL_message_3 rfl (lv_at hl 1 rfl) ?_
  refine lv_iload_n hx hb dL_message_4 rfl (lv_at hl 2 rfl) ?_
  refine k_rxV (As := [.int (nI mm), .int y]) (rest := [.int (nI 0), .ref ao]) (wc := [(ao, .inl (T 3, 1, .inr (.inl f)))] ++ oC T (w, q, qz, h, qs, t, gr, u, tr, oc) (Sw, S, Z, Sh, Hs, X, Gg, U, K, O)) (wr := []) (w1 := [(ao, .inl (T 3, 1, .inr (.inl f)))] ++ oC T (w, q, qz, h, qs, t, gr, u, tr, oc) (Sw, S, Z, Sh, Hs, X, Gg, U, K, O)) (d := 7) cx (RX.fr (w_X7_message_t2 l hst G T H.size w q qz h qs t gr u tr oc Sw S Z Sh Hs X Gg U K O mm y hm20 hby) (Fr.head [(ao, .inl (T 3, 1, .inr (.inl f)))] (oC T (w, q, qz, h, qs, t, gr, u, tr, oc) (Sw, S, Z, Sh, Hs, X, Gg, U, K, O)) (oC T (w, q, qz, h, qs, t, gr, u, tr, oc) (Sw, S, Z, Sh, Hs, X, Gg, U, K, O)))) (cwV 2 hts gL_message_X7_message rfl rfl rfl (by decide +kernel) ⟨Nat.le_of_ble_eq_true rfl, Nat.le_of_ble_eq_true rfl⟩) (kN_full hP hD hS hA hE hK) hC (va_recv hK hP (ci := 7) (q0 := 1) rfl rfl) rfl hl.1 rfl (Nat.le_of_ble_eq_true rfl) dL_message_5 ⟨Nat.le_of_ble_eq_true rfl, Nat.le_of_ble_eq_true rfl⟩ (fun E9 ce q9 H locs he hP hD hS h1 h2 h3 => ?_) (fun v H locs he => by cases he)
  cases he
  refine vx_catch (own := RL) (name := "java/lang/IllegalArgumentException") (E := "java/lang/IllegalArgumentException") hown [⟨0, 10, 13, 13⟩] ⟨0, 10, 17, 15⟩ [] (htab.trans rfl) (List.forall_mem_cons.mpr ⟨Or.inr ⟨by decide, "java/lang/IndexOutOfBoundsException", hts (.classLink RL 13 "java/lang/IndexOutOfBoundsException") (by decide +kernel), hN9.1⟩, (fun _ h9 => by cases h9)⟩) (by decide) (by decide) (hts (.classLink RL 15 "java/lang/IllegalArgumentException") (by decide +kernel)) (va_Nw.use rfl (hC.1 "java/lang/IllegalArgumentException" (by decide))) h1 h2 h3 ?_
  refine lv_astore (lv' := [(4, .ref q9), (0, .ref (w 0)), (1, .int (nI mm)), (2, .int y), (3, .ref ao)]) hx hb dL_message_17 hl (by decide) rfl (fun ls hl => ?_)
  refine n_iconst hx hb 2 dL_message_19 (by decide) ?_
  subst hQ
  exact vx_ret (W.widen (k := 1) (n := 6) (by decide) (by decide) (e_rwi hx hb hr hlocks hS rfl hP hD dL_message_20))
set_option maxHeartbeats 4000000 in
set_option maxRecDepth 100000 in
theorem c_L_note (l : Launch) (hst : l.stackTraces = false) (G : va_G) (T : Nat → ClassId) (sz ao : Nat) (f : Nat → Int64) (w : Nat → Nat) (q : Nat → Nat) (qz : Nat → Nat) (h : Nat → Nat) (qs : Nat → Nat → Nat) (t : Nat → Nat) (gr : Nat → Nat) (u : Nat → Nat) (tr : Nat → Nat) (oc : Nat → Nat) (Sw : Nat → Nat → Int32) (S : Nat → Nat → Int32) (Z : Nat → Nat → Int32) (Sh : Nat → Nat → Int32) (Hs : Nat → Nat → Nat → Int32) (X : Nat → Nat → Int32) (Gg : Nat → Nat → Int32) (U : Nat → Nat → Int32) (K : Nat → Nat → Int32) (O : Nat → Nat → Int32) (mm : Nat) (kk : Nat) (hm20 : mm < 20) (hk9 : kk < 8) : RWx l yL_note wsL_note 3 G T sz ([(ao, .inl (T 3, 1, .inr (.inl f)))] ++ oC T (w, q, qz, h, qs, t, gr, u, tr, oc) (Sw, S, Z, Sh, Hs, X, Gg, U, K, O)) [.ref (w 0), .int (nI mm), .int (nI kk), .ref ao] (nI 0) ([(ao, .inl (T 3, 1, .inr (.inl (vp_updL f 0 ((pNote S mm kk)).toInt64))))] ++ oC T (w, q, qz, h, qs, t, gr, u, tr, oc) (Sw, S, Z, Sh, Hs, X, Gg, U, K, O)) := by
  refine met_vx (vx_ofWH (cc := cL_note) (maxL := 5) (ret := (some .int)) (by decide) rfl ?_)
  intro p e s m args below meth c s₁ B hml hv
  obtain ⟨ha, ⟨⟨hsz, hP, hK, hD0, hE0⟩, hC⟩, hN9⟩ := hv
  have hx := B.exec
  have hb := B.bytes
  have hr := B.returns
  have hlocks := B.notSynchronized
  have hts := atoms_spec (ws := wsL_note) B.pre
  have htab := vx_table (x := yL_note) B (hts (.codeWith yL_note cL_note 5 (some .int) [(0, 10, 13, 13), (0, 10, 17, 15)]) List.mem_cons_self)
  have hown : s.vm.findClass RL = some m.cls := findClass_of_methodNamed B.named
  have cx : CallFix p m c cL_note 5 s args wsL_note RL := ⟨hx, hb, hml, hown, hts⟩
  subst hsz
  have hD := hD0.self (sz := s.heap.size)
  generalize hAe : va_A ([(ao, .inl (T 3, 1, .inr (.inl f)))] ++ oC T (w, q, qz, h, qs, t, gr, u, tr, oc) (Sw, S, Z, Sh, Hs, X, Gg, U, K, O)) s.heap.size = A at hD hE0 ⊢
  have hE : gE A s s.heap := hE0
  have hA : ∀ q : Nat, s.heap.size ≤ q → A q := fun q h => by rw [← hAe]; exact Or.inr h
  have hS : va_S A s.heap s.heap [] := va_S.rf
  refine w_entry ha (Nat.le_of_ble_eq_true rfl) (fun ls hl => ?_)
  refine w_q (fun Q0 hQ => ?_)
  have hl : lv_has ls 5 [(0, .ref (w 0)), (1, .int (nI mm)), (2, .int (nI kk)), (3, .ref ao)] := hl
  refine w_h (fun H locs hHe hLe => ?_)
  have hP : va_P G vwCl ([(ao, .inl (T 3, 1, .inr (.inl f)))] ++ oC T (w, q, qz, h, qs, t, gr, u, tr, oc) (Sw, S, Z, Sh, Hs, X, Gg, U, K, O)) H := by rw [hHe]; exact hP
  have hS : va_S A s.heap H locs := by rw [hHe, hLe]; exact hS
  refine lv_aload_n hx hb dL_note_0 rfl (lv_at hl 3 rfl) ?_
  refine n_iconst hx hb 0 dL_note_1 (by decide) ?_
  refine lv_aload_n hx hb dL_note_2 rfl (lv_at hl 0 rfl) ?_
  refine lv_iload_n hx hb dL_note_3 rfl (lv_at hl 1 rfl) ?_
  refine lv_iload_n hx hb dL_note_4 rfl (lv_at hl 2 rfl) ?_
  refine k_rwV (As := [.int (nI mm), .int (nI kk)]) (rest := [.int (nI 0), .ref ao]) (wc := [(ao, .inl (T 3, 1, .inr (.inl f)))] ++ oC T (w, q, qz, h, qs, t, gr, u, tr, oc) (Sw, S, Z, Sh, Hs, X, Gg, U, K, O)) (wr := []) (w1 := [(ao, .inl (T 3, 1, .inr (.inl f)))] ++ oC T (w, q, qz, h, qs, t, gr, u, tr, oc) (Sw, S, Z, Sh, Hs, X, Gg, U, K, O)) (d := 2) (mc := 0) (ms := 0) (v := pNote S mm kk) cx (RWi.fr (w_X7_note l G T H.size w q qz h qs t gr u tr oc Sw S Z Sh Hs X Gg U K O mm kk hm20 hk9) (Fr.head [(ao, .inl (T 3, 1, .inr (.inl f)))] (oC T (w, q, qz, h, qs, t, gr, u, tr, oc) (Sw, S, Z, Sh, Hs, X, Gg, U, K, O)) (oC T (w, q, qz, h, qs, t, gr, u, tr, oc) (Sw, S, Z, Sh, Hs, X, Gg, U, K, O)))) (cwV 2 hts gL_note_X7_note rfl rfl rfl (by decide +kernel) ⟨Nat.le_of_ble_eq_true rfl, Nat.le_of_ble_eq_true rfl⟩) (kN_full hP hD hS hA hE hK) (va_recv hK hP (ci := 7) (q0 := 1) rfl rfl) rfl hl.1 rfl (Nat.le_of_ble_eq_true rfl) dL_note_5 ⟨Nat.le_of_ble_eq_true rfl, Nat.le_of_ble_eq_true rfl⟩ (fun H locs hP hD hS hz => ?_)
  have hP : va_P G vwCl ([(ao, .inl (T 3, 1, .inr (.inl f)))] ++ oC T (w, q, qz, h, qs, t, gr, u, tr, oc) (Sw, S, Z, Sh, Hs, X, Gg, U, K, O)) H := hP
  have hD : va_D A ([(ao, .inl (T 3, 1, .inr (.inl f)))] ++ oC T (w, q, qz, h, qs, t, gr, u, tr, oc) (Sw, S, Z, Sh, Hs, X, Gg, U, K, O)) := hD
  refine lv_i2l (v := (pNote S mm kk).toInt64) hx hb dL_note_8 rfl ?_
  refine va_last hx hb hK hP hD hS 0 3 rfl rfl (vp_in_nI (show 0 < 1 by decide) (by decide)) dL_note_9 (fun H locs hP hD hS => ?_)
  have hP : va_P G vwCl ([(ao, .inl (T 3, 1, .inr (.inl (vp_updL f 0 ((pNote S mm kk)).toInt64))))] ++ oC T (w, q, qz, h, qs, t, gr, u, tr, oc) (Sw, S, Z, Sh, Hs, X, Gg, U, K, O)) H := hP
  have hD : va_D A ([(ao, .inl (T 3, 1, .inr (.inl (vp_updL f 0 ((pNote S mm kk)).toInt64))))] ++ oC T (w, q, qz, h, qs, t, gr, u, tr, oc) (Sw, S, Z, Sh, Hs, X, Gg, U, K, O)) := hD
  refine lv_goto (tgt := 21) hx hb dL_note_10 (by decide) ?_
  refine n_iconst hx hb 0 dL_note_21 (by decide) ?_
  subst hQ
  exact vx_ret (W.widen (k := 1) (n := 6) (by decide) (by decide) (e_rwi hx hb hr hlocks hS rfl hP hD dL_note_22))
set_option maxHeartbeats 4000000 in
set_option maxRecDepth 100000 in
theorem c_L_note_t (l : Launch) (hst : l.stackTraces = false) (G : va_G) (T : Nat → ClassId) (sz ao : Nat) (f : Nat → Int64) (w : Nat → Nat) (q : Nat → Nat) (qz : Nat → Nat) (h : Nat → Nat) (qs : Nat → Nat → Nat) (t : Nat → Nat) (gr : Nat → Nat) (u : Nat → Nat) (tr : Nat → Nat) (oc : Nat → Nat) (Sw : Nat → Nat → Int32) (S : Nat → Nat → Int32) (Z : Nat → Nat → Int32) (Sh : Nat → Nat → Int32) (Hs : Nat → Nat → Nat → Int32) (X : Nat → Nat → Int32) (Gg : Nat → Nat → Int32) (U : Nat → Nat → Int32) (K : Nat → Nat → Int32) (O : Nat → Nat → Int32) (x : Int32) (y : Int32) (hbx : pBt x 20 = false) : RWx l yL_note wsL_note 8 G T sz ([(ao, .inl (T 3, 1, .inr (.inl f)))] ++ oC T (w, q, qz, h, qs, t, gr, u, tr, oc) (Sw, S, Z, Sh, Hs, X, Gg, U, K, O)) [.ref (w 0), .int x, .int y, .ref ao] (nI 1) ([(ao, .inl (T 3, 1, .inr (.inl f)))] ++ oC T (w, q, qz, h, qs, t, gr, u, tr, oc) (Sw, S, Z, Sh, Hs, X, Gg, U, K, O)) := by
  refine met_vx (vx_ofWH (cc := cL_note) (maxL := 5) (ret := (some .int)) (by decide) rfl ?_)
  intro p e s m args below meth c s₁ B hml hv
  obtain ⟨ha, ⟨⟨hsz, hP, hK, hD0, hE0⟩, hC⟩, hN9⟩ := hv
  have hx := B.exec
  have hb := B.bytes
  have hr := B.returns
  have hlocks := B.notSynchronized
  have hts := atoms_spec (ws := wsL_note) B.pre
  have htab := vx_table (x := yL_note) B (hts (.codeWith yL_note cL_note 5 (some .int) [(0, 10, 13, 13), (0, 10, 17, 15)]) List.mem_cons_self)
  have hown : s.vm.findClass RL = some m.cls := findClass_of_methodNamed B.named
  have cx : CallFix p m c cL_note 5 s args wsL_note RL := ⟨hx, hb, hml, hown, hts⟩
  subst hsz
  have hD := hD0.self (sz := s.heap.size)
  generalize hAe : va_A ([(ao, .inl (T 3, 1, .inr (.inl f)))] ++ oC T (w, q, qz, h, qs, t, gr, u, tr, oc) (Sw, S, Z, Sh, Hs, X, Gg, U, K, O)) s.heap.size = A at hD hE0 ⊢
  have hE : gE A s s.heap := hE0
  have hA : ∀ q : Nat, s.heap.size ≤ q → A q := fun q h => by rw [← hAe]; exact Or.inr h
  have hS : va_S A s.heap s.heap [] := va_S.rf
  refine w_entry ha (Nat.le_of_ble_eq_true rfl) (fun ls hl => ?_)
  refine w_q (fun Q0 hQ => ?_)
  have hl : lv_has ls 5 [(0, .ref (w 0)), (1, .int x), (2, .int y), (3, .ref ao)] := hl
  refine w_h (fun H locs hHe hLe => ?_)
  have hP : va_P G vwCl ([(ao, .inl (T 3, 1, .inr (.inl f)))] ++ oC T (w, q, qz, h, qs, t, gr, u, tr, oc) (Sw, S, Z, Sh, Hs, X, Gg, U, K, O)) H := by rw [hHe]; exact hP
  have hS : va_S A s.heap H locs := by rw [hHe, hLe]; exact hS
  refine lv_aload_n hx hb dL_note_0 rfl (lv_at hl 3 rfl) ?_
  refine n_iconst hx hb 0 dL_note_1 (by decide) ?_
  refine lv_aload_n hx hb dL_note_2 rfl (lv_at hl 0 rfl) ?_
  refine lv_iload_n hx hb dL_note_3 rfl (lv_at hl 1 rfl) ?_
  refine lv_iload_n hx hb dL_note_4 rfl (lv_at hl 2 rfl) ?_
  refine k_rxV (As := [.int x, .int y]) (rest := [.int (nI 0), .ref ao]) (wc := [(ao, .inl (T 3, 1, .inr (.inl f)))] ++ oC T (w, q, qz, h, qs, t, gr, u, tr, oc) (Sw, S, Z, Sh, Hs, X, Gg, U, K, O)) (wr := []) (w1 := [(ao, .inl (T 3, 1, .inr (.inl f)))] ++ oC T (w, q, qz, h, qs, t, gr, u, tr, oc) (Sw, S, Z, Sh, Hs, X, Gg, U, K, O)) (d := 7) cx (RX.fr (w_X7_note_t l hst G T H.size w q qz h qs t gr u tr oc Sw S Z Sh Hs X Gg U K O x y hbx) (Fr.head [(ao, .inl (T 3, 1, .inr (.inl f)))] (oC T (w, q, qz, h, qs, t, gr, u, tr, oc) (Sw, S, Z, Sh, Hs, X, Gg, U, K, O)) (oC T (w, q, qz, h, qs, t, gr, u, tr, oc) (Sw, S, Z, Sh, Hs, X, Gg, U, K, O)))) (cwV 2 hts gL_note_X7_note rfl rfl rfl (by decide +kernel) ⟨Nat.le_of_ble_eq_true rfl, Nat.le_of_ble_eq_true rfl⟩) (kN_full hP hD hS hA hE hK) hC (va_recv hK hP (ci := 7) (q0 := 1) rfl rfl) rfl hl.1 rfl (Nat.le_of_ble_eq_true rfl) dL_note_5 ⟨Nat.le_of_ble_eq_true rfl, Nat.le_of_ble_eq_true rfl⟩ (fun E9 ce q9 H locs he hP hD hS h1 h2 h3 => ?_) (fun v H locs he => by cases he)
  cases he
  refine vx_catch (own := RL) (name := "java/lang/IndexOutOfBoundsException") (E := "java/lang/IndexOutOfBoundsException") hown [] ⟨0, 10, 13, 13⟩ [⟨0, 10, 17, 15⟩] (htab.trans rfl) (fun _ h9 => by cases h9) (by decide) (by decide) (hts (.classLink RL 13 "java/lang/IndexOutOfBoundsException") (by decide +kernel)) (va_Nw.use rfl (hC.1 "java/lang/IndexOutOfBoundsException" (by decide))) h1 h2 h3 ?_
  refine lv_astore (lv' := [(4, .ref q9), (0, .ref (w 0)), (1, .int x), (2, .int y), (3, .ref ao)]) hx hb dL_note_13 hl (by decide) rfl (fun ls hl => ?_)
  refine n_iconst hx hb 1 dL_note_15 (by decide) ?_
  subst hQ
  exact vx_ret (W.widen (k := 1) (n := 6) (by decide) (by decide) (e_rwi hx hb hr hlocks hS rfl hP hD dL_note_16))
set_option maxHeartbeats 4000000 in
set_option maxRecDepth 100000 in
theorem c_L_note_t2 (l : Launch) (hst : l.stackTraces = false) (G : va_G) (T : Nat → ClassId) (sz ao : Nat) (f : Nat → Int64) (w : Nat → Nat) (q : Nat → Nat) (qz : Nat → Nat) (h : Nat → Nat) (qs : Nat → Nat → Nat) (t : Nat → Nat) (gr : Nat → Nat) (u : Nat → Nat) (tr : Nat → Nat) (oc : Nat → Nat) (Sw : Nat → Nat → Int32) (S : Nat → Nat → Int32) (Z : Nat → Nat → Int32) (Sh : Nat → Nat → Int32) (Hs : Nat → Nat → Nat → Int32) (X : Nat → Nat → Int32) (Gg : Nat → Nat → Int32) (U : Nat → Nat → Int32) (K : Nat → Nat → Int32) (O : Nat → Nat → Int32) (mm : Nat) (y : Int32) (hm20 : mm < 20) (hby : pBt y 8 = false) : RWx l yL_note wsL_note 8 G T sz ([(ao, .inl (T 3, 1, .inr (.inl f)))] ++ oC T (w, q, qz, h, qs, t, gr, u, tr, oc) (Sw, S, Z, Sh, Hs, X, Gg, U, K, O)) [.ref (w 0), .int (nI mm), .int y, .ref ao] (nI 2) ([(ao, .inl (T 3, 1, .inr (.inl f)))] ++ oC T (w, q, qz, h, qs, t, gr, u, tr, oc) (Sw, S, Z, Sh, Hs, X, Gg, U, K, O)) := by
  refine met_vx (vx_ofWH (cc := cL_note) (maxL := 5) (ret := (some .int)) (by decide) rfl ?_)
  intro p e s m args below meth c s₁ B hml hv
  obtain ⟨ha, ⟨⟨hsz, hP, hK, hD0, hE0⟩, hC⟩, hN9⟩ := hv
  have hx := B.exec
  have hb := B.bytes
  have hr := B.returns
  have hlocks := B.notSynchronized
  have hts := atoms_spec (ws := wsL_note) B.pre
  have htab := vx_table (x := yL_note) B (hts (.codeWith yL_note cL_note 5 (some .int) [(0, 10, 13, 13), (0, 10, 17, 15)]) List.mem_cons_self)
  have hown : s.vm.findClass RL = some m.cls := findClass_of_methodNamed B.named
  have cx : CallFix p m c cL_note 5 s args wsL_note RL := ⟨hx, hb, hml, hown, hts⟩
  subst hsz
  have hD := hD0.self (sz := s.heap.size)
  generalize hAe : va_A ([(ao, .inl (T 3, 1, .inr (.inl f)))] ++ oC T (w, q, qz, h, qs, t, gr, u, tr, oc) (Sw, S, Z, Sh, Hs, X, Gg, U, K, O)) s.heap.size = A at hD hE0 ⊢
  have hE : gE A s s.heap := hE0
  have hA : ∀ q : Nat, s.heap.size ≤ q → A q := fun q h => by rw [← hAe]; exact Or.inr h
  have hS : va_S A s.heap s.heap [] := va_S.rf
  refine w_entry ha (Nat.le_of_ble_eq_true rfl) (fun ls hl => ?_)
  refine w_q (fun Q0 hQ => ?_)
  have hl : lv_has ls 5 [(0, .ref (w 0)), (1, .int (nI mm)), (2, .int y), (3, .ref ao)] := hl
  refine w_h (fun H locs hHe hLe => ?_)
  have hP : va_P G vwCl ([(ao, .inl (T 3, 1, .inr (.inl f)))] ++ oC T (w, q, qz, h, qs, t, gr, u, tr, oc) (Sw, S, Z, Sh, Hs, X, Gg, U, K, O)) H := by rw [hHe]; exact hP
  have hS : va_S A s.heap H locs := by rw [hHe, hLe]; exact hS
  refine lv_aload_n hx hb dL_note_0 rfl (lv_at hl 3 rfl) ?_
  refine n_iconst hx hb 0 dL_note_1 (by decide) ?_
  refine lv_aload_n hx hb dL_note_2 rfl (lv_at hl 0 rfl) ?_
  refine lv_iload_n hx hb dL_note_3 rfl (lv_at hl 1 rfl) ?_
  refine lv_iload_n hx hb dL_note_4 rfl (lv_at hl 2 rfl) ?_
  refine k_rxV (As := [.int (nI mm), .int y]) (rest := [.int (nI 0), .ref ao]) (wc := [(ao, .inl (T 3, 1, .inr (.inl f)))] ++ oC T (w, q, qz, h, qs, t, gr, u, tr, oc) (Sw, S, Z, Sh, Hs, X, Gg, U, K, O)) (wr := []) (w1 := [(ao, .inl (T 3, 1, .inr (.inl f)))] ++ oC T (w, q, qz, h, qs, t, gr, u, tr, oc) (Sw, S, Z, Sh, Hs, X, Gg, U, K, O)) (d := 7) cx (RX.fr (w_X7_note_t2 l hst G T H.size w q qz h qs t gr u tr oc Sw S Z Sh Hs X Gg U K O mm y hm20 hby) (Fr.head [(ao, .inl (T 3, 1, .inr (.inl f)))] (oC T (w, q, qz, h, qs, t, gr, u, tr, oc) (Sw, S, Z, Sh, Hs, X, Gg, U, K, O)) (oC T (w, q, qz, h, qs, t, gr, u, tr, oc) (Sw, S, Z, Sh, Hs, X, Gg, U, K, O)))) (cwV 2 hts gL_note_X7_note rfl rfl rfl (by decide +kernel) ⟨Nat.le_of_ble_eq_true rfl, Nat.le_of_ble_eq_true rfl⟩) (kN_full hP hD hS hA hE hK) hC (va_recv hK hP (ci := 7) (q0 := 1) rfl rfl) rfl hl.1 rfl (Nat.le_of_ble_eq_true rfl) dL_note_5 ⟨Nat.le_of_ble_eq_true rfl, Nat.le_of_ble_eq_true rfl⟩ (fun E9 ce q9 H locs he hP hD hS h1 h2 h3 => ?_) (fun v H locs he => by cases he)
  cases he
  refine vx_catch (own := RL) (name := "java/lang/IllegalArgumentException") (E := "java/lang/IllegalArgumentException") hown [⟨0, 10, 13, 13⟩] ⟨0, 10, 17, 15⟩ [] (htab.trans rfl) (List.forall_mem_cons.mpr ⟨Or.inr ⟨by decide, "java/lang/IndexOutOfBoundsException", hts (.classLink RL 13 "java/lang/IndexOutOfBoundsException") (by decide +kernel), hN9.1⟩, (fun _ h9 => by cases h9)⟩) (by decide) (by decide) (hts (.classLink RL 15 "java/lang/IllegalArgumentException") (by decide +kernel)) (va_Nw.use rfl (hC.1 "java/lang/IllegalArgumentException" (by decide))) h1 h2 h3 ?_
  refine lv_astore (lv' := [(4, .ref q9), (0, .ref (w 0)), (1, .int (nI mm)), (2, .int y), (3, .ref ao)]) hx hb dL_note_17 hl (by decide) rfl (fun ls hl => ?_)
  refine n_iconst hx hb 2 dL_note_19 (by decide) ?_
  subst hQ
  exact vx_ret (W.widen (k := 1) (n := 6) (by decide) (by decide) (e_rwi hx hb hr hlocks hS rfl hP hD dL_note_20))
set_option maxHeartbeats 4000000 in
set_option maxRecDepth 100000 in
theorem c_L_room (l : Launch) (hst : l.stackTraces = false) (G : va_G) (T : Nat → ClassId) (sz ao : Nat) (f : Nat → Int64) (w : Nat → Nat) (q : Nat → Nat) (qz : Nat → Nat) (h : Nat → Nat) (qs : Nat → Nat → Nat) (t : Nat → Nat) (gr : Nat → Nat) (u : Nat → Nat) (tr : Nat → Nat) (oc : Nat → Nat) (Sw : Nat → Nat → Int32) (S : Nat → Nat → Int32) (Z : Nat → Nat → Int32) (Sh : Nat → Nat → Int32) (Hs : Nat → Nat → Nat → Int32) (X : Nat → Nat → Int32) (Gg : Nat → Nat → Int32) (U : Nat → Nat → Int32) (K : Nat → Nat → Int32) (O : Nat → Nat → Int32) (rr : Nat) (kk : Nat) (hr6 : rr < 6) (hk9 : kk < 6) : RWx l yL_room wsL_room 3 G T sz ([(ao, .inl (T 3, 1, .inr (.inl f)))] ++ oC T (w, q, qz, h, qs, t, gr, u, tr, oc) (Sw, S, Z, Sh, Hs, X, Gg, U, K, O)) [.ref (w 0), .int (nI rr), .int (nI kk), .ref ao] (nI 0) ([(ao, .inl (T 3, 1, .inr (.inl (vp_updL f 0 ((pRm S rr kk)).toInt64))))] ++ oC T (w, q, qz, h, qs, t, gr, u, tr, oc) (Sw, S, Z, Sh, Hs, X, Gg, U, K, O)) := by
  refine met_vx (vx_ofWH (cc := cL_room) (maxL := 5) (ret := (some .int)) (by decide) rfl ?_)
  intro p e s m args below meth c s₁ B hml hv
  obtain ⟨ha, ⟨⟨hsz, hP, hK, hD0, hE0⟩, hC⟩, hN9⟩ := hv
  have hx := B.exec
  have hb := B.bytes
  have hr := B.returns
  have hlocks := B.notSynchronized
  have hts := atoms_spec (ws := wsL_room) B.pre
  have htab := vx_table (x := yL_room) B (hts (.codeWith yL_room cL_room 5 (some .int) [(0, 10, 13, 13), (0, 10, 17, 15)]) List.mem_cons_self)
  have hown : s.vm.findClass RL = some m.cls := findClass_of_methodNamed B.named
  have cx : CallFix p m c cL_room 5 s args wsL_room RL := ⟨hx, hb, hml, hown, hts⟩
  subst hsz
  have hD := hD0.self (sz := s.heap.size)
  generalize hAe : va_A ([(ao, .inl (T 3, 1, .inr (.inl f)))] ++ oC T (w, q, qz, h, qs, t, gr, u, tr, oc) (Sw, S, Z, Sh, Hs, X, Gg, U, K, O)) s.heap.size = A at hD hE0 ⊢
  have hE : gE A s s.heap := hE0
  have hA : ∀ q : Nat, s.heap.size ≤ q → A q := fun q h => by rw [← hAe]; exact Or.inr h
  have hS : va_S A s.heap s.heap [] := va_S.rf
  refine w_entry ha (Nat.le_of_ble_eq_true rfl) (fun ls hl => ?_)
  refine w_q (fun Q0 hQ => ?_)
  have hl : lv_has ls 5 [(0, .ref (w 0)), (1, .int (nI rr)), (2, .int (nI kk)), (3, .ref ao)] := hl
  refine w_h (fun H locs hHe hLe => ?_)
  have hP : va_P G vwCl ([(ao, .inl (T 3, 1, .inr (.inl f)))] ++ oC T (w, q, qz, h, qs, t, gr, u, tr, oc) (Sw, S, Z, Sh, Hs, X, Gg, U, K, O)) H := by rw [hHe]; exact hP
  have hS : va_S A s.heap H locs := by rw [hHe, hLe]; exact hS
  refine lv_aload_n hx hb dL_room_0 rfl (lv_at hl 3 rfl) ?_
  refine n_iconst hx hb 0 dL_room_1 (by decide) ?_
  refine lv_aload_n hx hb dL_room_2 rfl (lv_at hl 0 rfl) ?_
  refine lv_iload_n hx hb dL_room_3 rfl (lv_at hl 1 rfl) ?_
  refine lv_iload_n hx hb dL_room_4 rfl (lv_at hl 2 rfl) ?_
  refine k_rwV (As := [.int (nI rr), .int (nI kk)]) (rest := [.int (nI 0), .ref ao]) (wc := [(ao, .inl (T 3, 1, .inr (.inl f)))] ++ oC T (w, q, qz, h, qs, t, gr, u, tr, oc) (Sw, S, Z, Sh, Hs, X, Gg, U, K, O)) (wr := []) (w1 := [(ao, .inl (T 3, 1, .inr (.inl f)))] ++ oC T (w, q, qz, h, qs, t, gr, u, tr, oc) (Sw, S, Z, Sh, Hs, X, Gg, U, K, O)) (d := 2) (mc := 0) (ms := 0) (v := pRm S rr kk) cx (RWi.fr (w_X7_room l G T H.size w q qz h qs t gr u tr oc Sw S Z Sh Hs X Gg U K O rr kk hr6 hk9) (Fr.head [(ao, .inl (T 3, 1, .inr (.inl f)))] (oC T (w, q, qz, h, qs, t, gr, u, tr, oc) (Sw, S, Z, Sh, Hs, X, Gg, U, K, O)) (oC T (w, q, qz, h, qs, t, gr, u, tr, oc) (Sw, S, Z, Sh, Hs, X, Gg, U, K, O)))) (cwV 2 hts gL_room_X7_room rfl rfl rfl (by decide +kernel) ⟨Nat.le_of_ble_eq_true rfl, Nat.le_of_ble_eq_true rfl⟩) (kN_full hP hD hS hA hE hK) (va_recv hK hP (ci := 7) (q0 := 1) rfl rfl) rfl hl.1 rfl (Nat.le_of_ble_eq_true rfl) dL_room_5 ⟨Nat.le_of_ble_eq_true rfl, Nat.le_of_ble_eq_true rfl⟩ (fun H locs hP hD hS hz => ?_)
  have hP : va_P G vwCl ([(ao, .inl (T 3, 1, .inr (.inl f)))] ++ oC T (w, q, qz, h, qs, t, gr, u, tr, oc) (Sw, S, Z, Sh, Hs, X, Gg, U, K, O)) H := hP
  have hD : va_D A ([(ao, .inl (T 3, 1, .inr (.inl f)))] ++ oC T (w, q, qz, h, qs, t, gr, u, tr, oc) (Sw, S, Z, Sh, Hs, X, Gg, U, K, O)) := hD
  refine lv_i2l (v := (pRm S rr kk).toInt64) hx hb dL_room_8 rfl ?_
  refine va_last hx hb hK hP hD hS 0 3 rfl rfl (vp_in_nI (show 0 < 1 by decide) (by decide)) dL_room_9 (fun H locs hP hD hS => ?_)
  have hP : va_P G vwCl ([(ao, .inl (T 3, 1, .inr (.inl (vp_updL f 0 ((pRm S rr kk)).toInt64))))] ++ oC T (w, q, qz, h, qs, t, gr, u, tr, oc) (Sw, S, Z, Sh, Hs, X, Gg, U, K, O)) H := hP
  have hD : va_D A ([(ao, .inl (T 3, 1, .inr (.inl (vp_updL f 0 ((pRm S rr kk)).toInt64))))] ++ oC T (w, q, qz, h, qs, t, gr, u, tr, oc) (Sw, S, Z, Sh, Hs, X, Gg, U, K, O)) := hD
  refine lv_goto (tgt := 21) hx hb dL_room_10 (by decide) ?_
  refine n_iconst hx hb 0 dL_room_21 (by decide) ?_
  subst hQ
  exact vx_ret (W.widen (k := 1) (n := 6) (by decide) (by decide) (e_rwi hx hb hr hlocks hS rfl hP hD dL_room_22))
set_option maxHeartbeats 4000000 in
set_option maxRecDepth 100000 in
theorem c_L_room_t (l : Launch) (hst : l.stackTraces = false) (G : va_G) (T : Nat → ClassId) (sz ao : Nat) (f : Nat → Int64) (w : Nat → Nat) (q : Nat → Nat) (qz : Nat → Nat) (h : Nat → Nat) (qs : Nat → Nat → Nat) (t : Nat → Nat) (gr : Nat → Nat) (u : Nat → Nat) (tr : Nat → Nat) (oc : Nat → Nat) (Sw : Nat → Nat → Int32) (S : Nat → Nat → Int32) (Z : Nat → Nat → Int32) (Sh : Nat → Nat → Int32) (Hs : Nat → Nat → Nat → Int32) (X : Nat → Nat → Int32) (Gg : Nat → Nat → Int32) (U : Nat → Nat → Int32) (K : Nat → Nat → Int32) (O : Nat → Nat → Int32) (x : Int32) (y : Int32) (hbx : pBt x 6 = false) : RWx l yL_room wsL_room 8 G T sz ([(ao, .inl (T 3, 1, .inr (.inl f)))] ++ oC T (w, q, qz, h, qs, t, gr, u, tr, oc) (Sw, S, Z, Sh, Hs, X, Gg, U, K, O)) [.ref (w 0), .int x, .int y, .ref ao] (nI 1) ([(ao, .inl (T 3, 1, .inr (.inl f)))] ++ oC T (w, q, qz, h, qs, t, gr, u, tr, oc) (Sw, S, Z, Sh, Hs, X, Gg, U, K, O)) := by
  refine met_vx (vx_ofWH (cc := cL_room) (maxL := 5) (ret := (some .int)) (by decide) rfl ?_)
  intro p e s m args below meth c s₁ B hml hv
  obtain ⟨ha, ⟨⟨hsz, hP, hK, hD0, hE0⟩, hC⟩, hN9⟩ := hv
  have hx := B.exec
  have hb := B.bytes
  have hr := B.returns
  have hlocks := B.notSynchronized
  have hts := atoms_spec (ws := wsL_room) B.pre
  have htab := vx_table (x := yL_room) B (hts (.codeWith yL_room cL_room 5 (some .int) [(0, 10, 13, 13), (0, 10, 17, 15)]) List.mem_cons_self)
  have hown : s.vm.findClass RL = some m.cls := findClass_of_methodNamed B.named
  have cx : CallFix p m c cL_room 5 s args wsL_room RL := ⟨hx, hb, hml, hown, hts⟩
  subst hsz
  have hD := hD0.self (sz := s.heap.size)
  generalize hAe : va_A ([(ao, .inl (T 3, 1, .inr (.inl f)))] ++ oC T (w, q, qz, h, qs, t, gr, u, tr, oc) (Sw, S, Z, Sh, Hs, X, Gg, U, K, O)) s.heap.size = A at hD hE0 ⊢
  have hE : gE A s s.heap := hE0
  have hA : ∀ q : Nat, s.heap.size ≤ q → A q := fun q h => by rw [← hAe]; exact Or.inr h
  have hS : va_S A s.heap s.heap [] := va_S.rf
  refine w_entry ha (Nat.le_of_ble_eq_true rfl) (fun ls hl => ?_)
  refine w_q (fun Q0 hQ => ?_)
  have hl : lv_has ls 5 [(0, .ref (w 0)), (1, .int x), (2, .int y), (3, .ref ao)] := hl
  refine w_h (fun H locs hHe hLe => ?_)
  have hP : va_P G vwCl ([(ao, .inl (T 3, 1, .inr (.inl f)))] ++ oC T (w, q, qz, h, qs, t, gr, u, tr, oc) (Sw, S, Z, Sh, Hs, X, Gg, U, K, O)) H := by rw [hHe]; exact hP
  have hS : va_S A s.heap H locs := by rw [hHe, hLe]; exact hS
  refine lv_aload_n hx hb dL_room_0 rfl (lv_at hl 3 rfl) ?_
  refine n_iconst hx hb 0 dL_room_1 (by decide) ?_
  refine lv_aload_n hx hb dL_room_2 rfl (lv_at hl 0 rfl) ?_
  refine lv_iload_n hx hb dL_room_3 rfl (lv_at hl 1 rfl) ?_
  refine lv_iload_n hx hb dL_room_4 rfl (lv_at hl 2 rfl) ?_
  refine k_rxV (As := [.int x, .int y]) (rest := [.int (nI 0), .ref ao]) (wc := [(ao, .inl (T 3, 1, .inr (.inl f)))] ++ oC T (w, q, qz, h, qs, t, gr, u, tr, oc) (Sw, S, Z, Sh, Hs, X, Gg, U, K, O)) (wr := []) (w1 := [(ao, .inl (T 3, 1, .inr (.inl f)))] ++ oC T (w, q, qz, h, qs, t, gr, u, tr, oc) (Sw, S, Z, Sh, Hs, X, Gg, U, K, O)) (d := 7) cx (RX.fr (w_X7_room_t l hst G T H.size w q qz h qs t gr u tr oc Sw S Z Sh Hs X Gg U K O x y hbx) (Fr.head [(ao, .inl (T 3, 1, .inr (.inl f)))] (oC T (w, q, qz, h, qs, t, gr, u, tr, oc) (Sw, S, Z, Sh, Hs, X, Gg, U, K, O)) (oC T (w, q, qz, h, qs, t, gr, u, tr, oc) (Sw, S, Z, Sh, Hs, X, Gg, U, K, O)))) (cwV 2 hts gL_room_X7_room rfl rfl rfl (by decide +kernel) ⟨Nat.le_of_ble_eq_true rfl, Nat.le_of_ble_eq_true rfl⟩) (kN_full hP hD hS hA hE hK) hC (va_recv hK hP (ci := 7) (q0 := 1) rfl rfl) rfl hl.1 rfl (Nat.le_of_ble_eq_true rfl) dL_room_5 ⟨Nat.le_of_ble_eq_true rfl, Nat.le_of_ble_eq_true rfl⟩ (fun E9 ce q9 H locs he hP hD hS h1 h2 h3 => ?_) (fun v H locs he => by cases he)
  cases he
  refine vx_catch (own := RL) (name := "java/lang/IndexOutOfBoundsException") (E := "java/lang/IndexOutOfBoundsException") hown [] ⟨0, 10, 13, 13⟩ [⟨0, 10, 17, 15⟩] (htab.trans rfl) (fun _ h9 => by cases h9) (by decide) (by decide) (hts (.classLink RL 13 "java/lang/IndexOutOfBoundsException") (by decide +kernel)) (va_Nw.use rfl (hC.1 "java/lang/IndexOutOfBoundsException" (by decide))) h1 h2 h3 ?_
  refine lv_astore (lv' := [(4, .ref q9), (0, .ref (w 0)), (1, .int x), (2, .int y), (3, .ref ao)]) hx hb dL_room_13 hl (by decide) rfl (fun ls hl => ?_)
  refine n_iconst hx hb 1 dL_room_15 (by decide) ?_
  subst hQ
  exact vx_ret (W.widen (k := 1) (n := 6) (by decide) (by decide) (e_rwi hx hb hr hlocks hS rfl hP hD dL_room_16))
set_option maxHeartbeats 4000000 in
set_option maxRecDepth 100000 in
theorem c_L_room_t2 (l : Launch) (hst : l.stackTraces = false) (G : va_G) (T : Nat → ClassId) (sz ao : Nat) (f : Nat → Int64) (w : Nat → Nat) (q : Nat → Nat) (qz : Nat → Nat) (h : Nat → Nat) (qs : Nat → Nat → Nat) (t : Nat → Nat) (gr : Nat → Nat) (u : Nat → Nat) (tr : Nat → Nat) (oc : Nat → Nat) (Sw : Nat → Nat → Int32) (S : Nat → Nat → Int32) (Z : Nat → Nat → Int32) (Sh : Nat → Nat → Int32) (Hs : Nat → Nat → Nat → Int32) (X : Nat → Nat → Int32) (Gg : Nat → Nat → Int32) (U : Nat → Nat → Int32) (K : Nat → Nat → Int32) (O : Nat → Nat → Int32) (rr : Nat) (y : Int32) (hr6 : rr < 6) (hby : pBt y 6 = false) : RWx l yL_room wsL_room 8 G T sz ([(ao, .inl (T 3, 1, .inr (.inl f)))] ++ oC T (w, q, qz, h, qs, t, gr, u, tr, oc) (Sw, S, Z, Sh, Hs, X, Gg, U, K, O)) [.ref (w 0), .int (nI rr), .int y, .ref ao] (nI 2) ([(ao, .inl (T 3, 1, .inr (.inl f)))] ++ oC T (w, q, qz, h, qs, t, gr, u, tr, oc) (Sw, S, Z, Sh, Hs, X, Gg, U, K, O)) := by
  refine met_vx (vx_ofWH (cc := cL_room) (maxL := 5) (ret := (some .int)) (by decide) rfl ?_)
  intro p e s m args below meth c s₁ B hml hv
  obtain ⟨ha, ⟨⟨hsz, hP, hK, hD0, hE0⟩, hC⟩, hN9⟩ := hv
  have hx := B.exec
  have hb := B.bytes
  have hr := B.returns
  have hlocks := B.notSynchronized
  have hts := atoms_spec (ws := wsL_room) B.pre
  have htab := vx_table (x := yL_room) B (hts (.codeWith yL_room cL_room 5 (some .int) [(0, 10, 13, 13), (0, 10, 17, 15)]) List.mem_cons_self)
  have hown : s.vm.findClass RL = some m.cls := findClass_of_methodNamed B.named
  have cx : CallFix p m c cL_room 5 s args wsL_room RL := ⟨hx, hb, hml, hown, hts⟩
  subst hsz
  have hD := hD0.self (sz := s.heap.size)
  generalize hAe : va_A ([(ao, .inl (T 3, 1, .inr (.inl f)))] ++ oC T (w, q, qz, h, qs, t, gr, u, tr, oc) (Sw, S, Z, Sh, Hs, X, Gg, U, K, O)) s.heap.size = A at hD hE0 ⊢
  have hE : gE A s s.heap := hE0
  have hA : ∀ q : Nat, s.heap.size ≤ q → A q := fun q h => by rw [← hAe]; exact Or.inr h
  have hS : va_S A s.heap s.heap [] := va_S.rf
  refine w_entry ha (Nat.le_of_ble_eq_true rfl) (fun ls hl => ?_)
  refine w_q (fun Q0 hQ => ?_)
  have hl : lv_has ls 5 [(0, .ref (w 0)), (1, .int (nI rr)), (2, .int y), (3, .ref ao)] := hl
  refine w_h (fun H locs hHe hLe => ?_)
  have hP : va_P G vwCl ([(ao, .inl (T 3, 1, .inr (.inl f)))] ++ oC T (w, q, qz, h, qs, t, gr, u, tr, oc) (Sw, S, Z, Sh, Hs, X, Gg, U, K, O)) H := by rw [hHe]; exact hP
  have hS : va_S A s.heap H locs := by rw [hHe, hLe]; exact hS
  refine lv_aload_n hx hb dL_room_0 rfl (lv_at hl 3 rfl) ?_
  refine n_iconst hx hb 0 dL_room_1 (by decide) ?_
  refine lv_aload_n hx hb dL_room_2 rfl (lv_at hl 0 rfl) ?_
  refine lv_iload_n hx hb dL_room_3 rfl (lv_at hl 1 rfl) ?_
  refine lv_iload_n hx hb dL_room_4 rfl (lv_at hl 2 rfl) ?_
  refine k_rxV (As := [.int (nI rr), .int y]) (rest := [.int (nI 0), .ref ao]) (wc := [(ao, .inl (T 3, 1, .inr (.inl f)))] ++ oC T (w, q, qz, h, qs, t, gr, u, tr, oc) (Sw, S, Z, Sh, Hs, X, Gg, U, K, O)) (wr := []) (w1 := [(ao, .inl (T 3, 1, .inr (.inl f)))] ++ oC T (w, q, qz, h, qs, t, gr, u, tr, oc) (Sw, S, Z, Sh, Hs, X, Gg, U, K, O)) (d := 7) cx (RX.fr (w_X7_room_t2 l hst G T H.size w q qz h qs t gr u tr oc Sw S Z Sh Hs X Gg U K O rr y hr6 hby) (Fr.head [(ao, .inl (T 3, 1, .inr (.inl f)))] (oC T (w, q, qz, h, qs, t, gr, u, tr, oc) (Sw, S, Z, Sh, Hs, X, Gg, U, K, O)) (oC T (w, q, qz, h, qs, t, gr, u, tr, oc) (Sw, S, Z, Sh, Hs, X, Gg, U, K, O)))) (cwV 2 hts gL_room_X7_room rfl rfl rfl (by decide +kernel) ⟨Nat.le_of_ble_eq_true rfl, Nat.le_of_ble_eq_true rfl⟩) (kN_full hP hD hS hA hE hK) hC (va_recv hK hP (ci := 7) (q0 := 1) rfl rfl) rfl hl.1 rfl (Nat.le_of_ble_eq_true rfl) dL_room_5 ⟨Nat.le_of_ble_eq_true rfl, Nat.le_of_ble_eq_true rfl⟩ (fun E9 ce q9 H locs he hP hD hS h1 h2 h3 => ?_) (fun v H locs he => by cases he)
  cases he
  refine vx_catch (own := RL) (name := "java/lang/IllegalArgumentException") (E := "java/lang/IllegalArgumentException") hown [⟨0, 10, 13, 13⟩] ⟨0, 10, 17, 15⟩ [] (htab.trans rfl) (List.forall_mem_cons.mpr ⟨Or.inr ⟨by decide, "java/lang/IndexOutOfBoundsException", hts (.classLink RL 13 "java/lang/IndexOutOfBoundsException") (by decide +kernel), hN9.1⟩, (fun _ h9 => by cases h9)⟩) (by decide) (by decide) (hts (.classLink RL 15 "java/lang/IllegalArgumentException") (by decide +kernel)) (va_Nw.use rfl (hC.1 "java/lang/IllegalArgumentException" (by decide))) h1 h2 h3 ?_
  refine lv_astore (lv' := [(4, .ref q9), (0, .ref (w 0)), (1, .int (nI rr)), (2, .int y), (3, .ref ao)]) hx hb dL_room_17 hl (by decide) rfl (fun ls hl => ?_)
  refine n_iconst hx hb 2 dL_room_19 (by decide) ?_
  subst hQ
  exact vx_ret (W.widen (k := 1) (n := 6) (by decide) (by decide) (e_rwi hx hb hr hlocks hS rfl hP hD dL_room_20))
set_option maxHeartbeats 4000000 in
set_option maxRecDepth 100000 in
theorem c_L_whyNot (l : Launch) (hst : l.stackTraces = false) (G : va_G) (T : Nat → ClassId) (sz ao : Nat) (f : Nat → Int64) (w : Nat → Nat) (q : Nat → Nat) (qz : Nat → Nat) (h : Nat → Nat) (qs : Nat → Nat → Nat) (t : Nat → Nat) (gr : Nat → Nat) (u : Nat → Nat) (tr : Nat → Nat) (oc : Nat → Nat) (Sw : Nat → Nat → Int32) (S : Nat → Nat → Int32) (Z : Nat → Nat → Int32) (Sh : Nat → Nat → Int32) (Hs : Nat → Nat → Nat → Int32) (X : Nat → Nat → Int32) (Gg : Nat → Nat → Int32) (U : Nat → Nat → Int32) (K : Nat → Nat → Int32) (O : Nat → Nat → Int32) (rr : Nat) (mm : Nat) (hr6 : rr < 6) (hm20 : mm < 20) : RWx l yL_whyNot wsL_whyNot 4 G T sz ([(ao, .inl (T 3, 1, .inr (.inl f)))] ++ oC T (w, q, qz, h, qs, t, gr, u, tr, oc) (Sw, S, Z, Sh, Hs, X, Gg, U, K, O)) [.ref (w 0), .int (nI rr), .int (nI mm), .ref ao] (nI 0) ([(ao, .inl (T 3, 1, .inr (.inl (vp_updL f 0 ((pWhy S rr mm)).toInt64))))] ++ oC T (w, q, qz, h, qs, t, gr, u, tr, oc) (Sw, S, Z, Sh, Hs, X, Gg, U, K, O)) := by
  refine met_vx (vx_ofWH (cc := cL_whyNot) (maxL := 5) (ret := (some .int)) (by decide) rfl ?_)
  intro p e s m args below meth c s₁ B hml hv
  obtain ⟨ha, ⟨⟨hsz, hP, hK, hD0, hE0⟩, hC⟩, hN9⟩ := hv
  have hx := B.exec
  have hb := B.bytes
  have hr := B.returns
  have hlocks := B.notSynchronized
  have hts := atoms_spec (ws := wsL_whyNot) B.pre
  have htab := vx_table (x := yL_whyNot) B (hts (.codeWith yL_whyNot cL_whyNot 5 (some .int) [(0, 10, 13, 13)]) List.mem_cons_self)
  have hown : s.vm.findClass RL = some m.cls := findClass_of_methodNamed B.named
  have cx : CallFix p m c cL_whyNot 5 s args wsL_whyNot RL := ⟨hx, hb, hml, hown, hts⟩
  subst hsz
  have hD := hD0.self (sz := s.heap.size)
  generalize hAe : va_A ([(ao, .inl (T 3, 1, .inr (.inl f)))] ++ oC T (w, q, qz, h, qs, t, gr, u, tr, oc) (Sw, S, Z, Sh, Hs, X, Gg, U, K, O)) s.heap.size = A at hD hE0 ⊢
  have hE : gE A s s.heap := hE0
  have hA : ∀ q : Nat, s.heap.size ≤ q → A q := fun q h => by rw [← hAe]; exact Or.inr h
  have hS : va_S A s.heap s.heap [] := va_S.rf
  refine w_entry ha (Nat.le_of_ble_eq_true rfl) (fun ls hl => ?_)
  refine w_q (fun Q0 hQ => ?_)
  have hl : lv_has ls 5 [(0, .ref (w 0)), (1, .int (nI rr)), (2, .int (nI mm)), (3, .ref ao)] := hl
  refine w_h (fun H locs hHe hLe => ?_)
  have hP : va_P G vwCl ([(ao, .inl (T 3, 1, .inr (.inl f)))] ++ oC T (w, q, qz, h, qs, t, gr, u, tr, oc) (Sw, S, Z, Sh, Hs, X, Gg, U, K, O)) H := by rw [hHe]; exact hP
  have hS : va_S A s.heap H locs := by rw [hHe, hLe]; exact hS
  refine lv_aload_n hx hb dL_whyNot_0 rfl (lv_at hl 3 rfl) ?_
  refine n_iconst hx hb 0 dL_whyNot_1 (by decide) ?_
  refine lv_aload_n hx hb dL_whyNot_2 rfl (lv_at hl 0 rfl) ?_
  refine lv_iload_n hx hb dL_whyNot_3 rfl (lv_at hl 1 rfl) ?_
  refine lv_iload_n hx hb dL_whyNot_4 rfl (lv_at hl 2 rfl) ?_
  refine k_rwV (As := [.int (nI rr), .int (nI mm)]) (rest := [.int (nI 0), .ref ao]) (wc := [(ao, .inl (T 3, 1, .inr (.inl f)))] ++ oC T (w, q, qz, h, qs, t, gr, u, tr, oc) (Sw, S, Z, Sh, Hs, X, Gg, U, K, O)) (wr := []) (w1 := [(ao, .inl (T 3, 1, .inr (.inl f)))] ++ oC T (w, q, qz, h, qs, t, gr, u, tr, oc) (Sw, S, Z, Sh, Hs, X, Gg, U, K, O)) (d := 3) (mc := 0) (ms := 0) (v := pWhy S rr mm) cx (RWi.fr (w_X7_whyNot l G T H.size w q qz h qs t gr u tr oc Sw S Z Sh Hs X Gg U K O rr mm hr6 hm20) (Fr.head [(ao, .inl (T 3, 1, .inr (.inl f)))] (oC T (w, q, qz, h, qs, t, gr, u, tr, oc) (Sw, S, Z, Sh, Hs, X, Gg, U, K, O)) (oC T (w, q, qz, h, qs, t, gr, u, tr, oc) (Sw, S, Z, Sh, Hs, X, Gg, U, K, O)))) (cwV 2 hts gL_whyNot_X7_whyNot rfl rfl rfl (by decide +kernel) ⟨Nat.le_of_ble_eq_true rfl, Nat.le_of_ble_eq_true rfl⟩) (kN_full hP hD hS hA hE hK) (va_recv hK hP (ci := 7) (q0 := 1) rfl rfl) rfl hl.1 rfl (Nat.le_of_ble_eq_true rfl) dL_whyNot_5 ⟨Nat.le_of_ble_eq_true rfl, Nat.le_of_ble_eq_true rfl⟩ (fun H locs hP hD hS hz => ?_)
  have hP : va_P G vwCl ([(ao, .inl (T 3, 1, .inr (.inl f)))] ++ oC T (w, q, qz, h, qs, t, gr, u, tr, oc) (Sw, S, Z, Sh, Hs, X, Gg, U, K, O)) H := hP
  have hD : va_D A ([(ao, .inl (T 3, 1, .inr (.inl f)))] ++ oC T (w, q, qz, h, qs, t, gr, u, tr, oc) (Sw, S, Z, Sh, Hs, X, Gg, U, K, O)) := hD
  refine lv_i2l (v := (pWhy S rr mm).toInt64) hx hb dL_whyNot_8 rfl ?_
  refine va_last hx hb hK hP hD hS 0 3 rfl rfl (vp_in_nI (show 0 < 1 by decide) (by decide)) dL_whyNot_9 (fun H locs hP hD hS => ?_)
  have hP : va_P G vwCl ([(ao, .inl (T 3, 1, .inr (.inl (vp_updL f 0 ((pWhy S rr mm)).toInt64))))] ++ oC T (w, q, qz, h, qs, t, gr, u, tr, oc) (Sw, S, Z, Sh, Hs, X, Gg, U, K, O)) H := hP
  have hD : va_D A ([(ao, .inl (T 3, 1, .inr (.inl (vp_updL f 0 ((pWhy S rr mm)).toInt64))))] ++ oC T (w, q, qz, h, qs, t, gr, u, tr, oc) (Sw, S, Z, Sh, Hs, X, Gg, U, K, O)) := hD
  refine lv_goto (tgt := 17) hx hb dL_whyNot_10 (by decide) ?_
  refine n_iconst hx hb 0 dL_whyNot_17 (by decide) ?_
  subst hQ
  exact vx_ret (W.widen (k := 1) (n := 6) (by decide) (by decide) (e_rwi hx hb hr hlocks hS rfl hP hD dL_whyNot_18))
set_option maxHeartbeats 4000000 in
set_option maxRecDepth 100000 in
theorem c_L_whyNot_t (l : Launch) (hst : l.stackTraces = false) (G : va_G) (T : Nat → ClassId) (sz ao : Nat) (f : Nat → Int64) (w : Nat → Nat) (q : Nat → Nat) (qz : Nat → Nat) (h : Nat → Nat) (qs : Nat → Nat → Nat) (t : Nat → Nat) (gr : Nat → Nat) (u : Nat → Nat) (tr : Nat → Nat) (oc : Nat → Nat) (Sw : Nat → Nat → Int32) (S : Nat → Nat → Int32) (Z : Nat → Nat → Int32) (Sh : Nat → Nat → Int32) (Hs : Nat → Nat → Nat → Int32) (X : Nat → Nat → Int32) (Gg : Nat → Nat → Int32) (U : Nat → Nat → Int32) (K : Nat → Nat → Int32) (O : Nat → Nat → Int32) (x : Int32) (y : Int32) (hbx : pBt x 6 = false) : RWx l yL_whyNot wsL_whyNot 8 G T sz ([(ao, .inl (T 3, 1, .inr (.inl f)))] ++ oC T (w, q, qz, h, qs, t, gr, u, tr, oc) (Sw, S, Z, Sh, Hs, X, Gg, U, K, O)) [.ref (w 0), .int x, .int y, .ref ao] (nI 1) ([(ao, .inl (T 3, 1, .inr (.inl f)))] ++ oC T (w, q, qz, h, qs, t, gr, u, tr, oc) (Sw, S, Z, Sh, Hs, X, Gg, U, K, O)) := by
  refine met_vx (vx_ofWH (cc := cL_whyNot) (maxL := 5) (ret := (some .int)) (by decide) rfl ?_)
  intro p e s m args below meth c s₁ B hml hv
  obtain ⟨ha, ⟨⟨hsz, hP, hK, hD0, hE0⟩, hC⟩, hN9⟩ := hv
  have hx := B.exec
  have hb := B.bytes
  have hr := B.returns
  have hlocks := B.notSynchronized
  have hts := atoms_spec (ws := wsL_whyNot) B.pre
  have htab := vx_table (x := yL_whyNot) B (hts (.codeWith yL_whyNot cL_whyNot 5 (some .int) [(0, 10, 13, 13)]) List.mem_cons_self)
  have hown : s.vm.findClass RL = some m.cls := findClass_of_methodNamed B.named
  have cx : CallFix p m c cL_whyNot 5 s args wsL_whyNot RL := ⟨hx, hb, hml, hown, hts⟩
  subst hsz
  have hD := hD0.self (sz := s.heap.size)
  generalize hAe : va_A ([(ao, .inl (T 3, 1, .inr (.inl f)))] ++ oC T (w, q, qz, h, qs, t, gr, u, tr, oc) (Sw, S, Z, Sh, Hs, X, Gg, U, K, O)) s.heap.size = A at hD hE0 ⊢
  have hE : gE A s s.heap := hE0
  have hA : ∀ q : Nat, s.heap.size ≤ q → A q := fun q h => by rw [← hAe]; exact Or.inr h
  have hS : va_S A s.heap s.heap [] := va_S.rf
  refine w_entry ha (Nat.le_of_ble_eq_true rfl) (fun ls hl => ?_)
  refine w_q (fun Q0 hQ => ?_)
  have hl : lv_has ls 5 [(0, .ref (w 0)), (1, .int x), (2, .int y), (3, .ref ao)] := hl
  refine w_h (fun H locs hHe hLe => ?_)
  have hP : va_P G vwCl ([(ao, .inl (T 3, 1, .inr (.inl f)))] ++ oC T (w, q, qz, h, qs, t, gr, u, tr, oc) (Sw, S, Z, Sh, Hs, X, Gg, U, K, O)) H := by rw [hHe]; exact hP
  have hS : va_S A s.heap H locs := by rw [hHe, hLe]; exact hS
  refine lv_aload_n hx hb dL_whyNot_0 rfl (lv_at hl 3 rfl) ?_
  refine n_iconst hx hb 0 dL_whyNot_1 (by decide) ?_
  refine lv_aload_n hx hb dL_whyNot_2 rfl (lv_at hl 0 rfl) ?_
  refine lv_iload_n hx hb dL_whyNot_3 rfl (lv_at hl 1 rfl) ?_
  refine lv_iload_n hx hb dL_whyNot_4 rfl (lv_at hl 2 rfl) ?_
  refine k_rxV (As := [.int x, .int y]) (rest := [.int (nI 0), .ref ao]) (wc := [(ao, .inl (T 3, 1, .inr (.inl f)))] ++ oC T (w, q, qz, h, qs, t, gr, u, tr, oc) (Sw, S, Z, Sh, Hs, X, Gg, U, K, O)) (wr := []) (w1 := [(ao, .inl (T 3, 1, .inr (.inl f)))] ++ oC T (w, q, qz, h, qs, t, gr, u, tr, oc) (Sw, S, Z, Sh, Hs, X, Gg, U, K, O)) (d := 7) cx (RX.fr (w_X7_whyNot_t l hst G T H.size w q qz h qs t gr u tr oc Sw S Z Sh Hs X Gg U K O x y hbx) (Fr.head [(ao, .inl (T 3, 1, .inr (.inl f)))] (oC T (w, q, qz, h, qs, t, gr, u, tr, oc) (Sw, S, Z, Sh, Hs, X, Gg, U, K, O)) (oC T (w, q, qz, h, qs, t, gr, u, tr, oc) (Sw, S, Z, Sh, Hs, X, Gg, U, K, O)))) (cwV 2 hts gL_whyNot_X7_whyNot rfl rfl rfl (by decide +kernel) ⟨Nat.le_of_ble_eq_true rfl, Nat.le_of_ble_eq_true rfl⟩) (kN_full hP hD hS hA hE hK) hC (va_recv hK hP (ci := 7) (q0 := 1) rfl rfl) rfl hl.1 rfl (Nat.le_of_ble_eq_true rfl) dL_whyNot_5 ⟨Nat.le_of_ble_eq_true rfl, Nat.le_of_ble_eq_true rfl⟩ (fun E9 ce q9 H locs he hP hD hS h1 h2 h3 => ?_) (fun v H locs he => by cases he)
  cases he
  refine vx_catch (own := RL) (name := "java/lang/IndexOutOfBoundsException") (E := "java/lang/IndexOutOfBoundsException") hown [] ⟨0, 10, 13, 13⟩ [] (htab.trans rfl) (fun _ h9 => by cases h9) (by decide) (by decide) (hts (.classLink RL 13 "java/lang/IndexOutOfBoundsException") (by decide +kernel)) (va_Nw.use rfl (hC.1 "java/lang/IndexOutOfBoundsException" (by decide))) h1 h2 h3 ?_
  refine lv_astore (lv' := [(4, .ref q9), (0, .ref (w 0)), (1, .int x), (2, .int y), (3, .ref ao)]) hx hb dL_whyNot_13 hl (by decide) rfl (fun ls hl => ?_)
  refine n_iconst hx hb 1 dL_whyNot_15 (by decide) ?_
  subst hQ
  exact vx_ret (W.widen (k := 1) (n := 6) (by decide) (by decide) (e_rwi hx hb hr hlocks hS rfl hP hD dL_whyNot_16))
set_option maxHeartbeats 4000000 in
set_option maxRecDepth 100000 in
theorem c_L_whyNot_t2 (l : Launch) (hst : l.stackTraces = false) (G : va_G) (T : Nat → ClassId) (sz ao : Nat) (f : Nat → Int64) (w : Nat → Nat) (q : Nat → Nat) (qz : Nat → Nat) (h : Nat → Nat) (qs : Nat → Nat → Nat) (t : Nat → Nat) (gr : Nat → Nat) (u : Nat → Nat) (tr : Nat → Nat) (oc : Nat → Nat) (Sw : Nat → Nat → Int32) (S : Nat → Nat → Int32) (Z : Nat → Nat → Int32) (Sh : Nat → Nat → Int32) (Hs : Nat → Nat → Nat → Int32) (X : Nat → Nat → Int32) (Gg : Nat → Nat → Int32) (U : Nat → Nat → Int32) (K : Nat → Nat → Int32) (O : Nat → Nat → Int32) (rr : Nat) (y : Int32) (hr6 : rr < 6) (hby : pBt y 20 = false) : RWx l yL_whyNot wsL_whyNot 8 G T sz ([(ao, .inl (T 3, 1, .inr (.inl f)))] ++ oC T (w, q, qz, h, qs, t, gr, u, tr, oc) (Sw, S, Z, Sh, Hs, X, Gg, U, K, O)) [.ref (w 0), .int (nI rr), .int y, .ref ao] (nI 1) ([(ao, .inl (T 3, 1, .inr (.inl f)))] ++ oC T (w, q, qz, h, qs, t, gr, u, tr, oc) (Sw, S, Z, Sh, Hs, X, Gg, U, K, O)) := by
  refine met_vx (vx_ofWH (cc := cL_whyNot) (maxL := 5) (ret := (some .int)) (by decide) rfl ?_)
  intro p e s m args below meth c s₁ B hml hv
  obtain ⟨ha, ⟨⟨hsz, hP, hK, hD0, hE0⟩, hC⟩, hN9⟩ := hv
  have hx := B.exec
  have hb := B.bytes
  have hr := B.returns
  have hlocks := B.notSynchronized
  have hts := atoms_spec (ws := wsL_whyNot) B.pre
  have htab := vx_table (x := yL_whyNot) B (hts (.codeWith yL_whyNot cL_whyNot 5 (some .int) [(0, 10, 13, 13)]) List.mem_cons_self)
  have hown : s.vm.findClass RL = some m.cls := findClass_of_methodNamed B.named
  have cx : CallFix p m c cL_whyNot 5 s args wsL_whyNot RL := ⟨hx, hb, hml, hown, hts⟩
  subst hsz
  have hD := hD0.self (sz := s.heap.size)
  generalize hAe : va_A ([(ao, .inl (T 3, 1, .inr (.inl f)))] ++ oC T (w, q, qz, h, qs, t, gr, u, tr, oc) (Sw, S, Z, Sh, Hs, X, Gg, U, K, O)) s.heap.size = A at hD hE0 ⊢
  have hE : gE A s s.heap := hE0
  have hA : ∀ q : Nat, s.heap.size ≤ q → A q := fun q h => by rw [← hAe]; exact Or.inr h
  have hS : va_S A s.heap s.heap [] := va_S.rf
  refine w_entry ha (Nat.le_of_ble_eq_true rfl) (fun ls hl => ?_)
  refine w_q (fun Q0 hQ => ?_)
  have hl : lv_has ls 5 [(0, .ref (w 0)), (1, .int (nI rr)), (2, .int y), (3, .ref ao)] := hl
  refine w_h (fun H locs hHe hLe => ?_)
  have hP : va_P G vwCl ([(ao, .inl (T 3, 1, .inr (.inl f)))] ++ oC T (w, q, qz, h, qs, t, gr, u, tr, oc) (Sw, S, Z, Sh, Hs, X, Gg, U, K, O)) H := by rw [hHe]; exact hP
  have hS : va_S A s.heap H locs := by rw [hHe, hLe]; exact hS
  refine lv_aload_n hx hb dL_whyNot_0 rfl (lv_at hl 3 rfl) ?_
  refine n_iconst hx hb 0 dL_whyNot_1 (by decide) ?_
  refine lv_aload_n hx hb dL_whyNot_2 rfl (lv_at hl 0 rfl) ?_
  refine lv_iload_n hx hb dL_whyNot_3 rfl (lv_at hl 1 rfl) ?_
  refine lv_iload_n hx hb dL_whyNot_4 rfl (lv_at hl 2 rfl) ?_
  refine k_rxV (As := [.int (nI rr), .int y]) (rest := [.int (nI 0), .ref ao]) (wc := [(ao, .inl (T 3, 1, .inr (.inl f)))] ++ oC T (w, q, qz, h, qs, t, gr, u, tr, oc) (Sw, S, Z, Sh, Hs, X, Gg, U, K, O)) (wr := []) (w1 := [(ao, .inl (T 3, 1, .inr (.inl f)))] ++ oC T (w, q, qz, h, qs, t, gr, u, tr, oc) (Sw, S, Z, Sh, Hs, X, Gg, U, K, O)) (d := 7) cx (RX.fr (w_X7_whyNot_t2 l hst G T H.size w q qz h qs t gr u tr oc Sw S Z Sh Hs X Gg U K O rr y hr6 hby) (Fr.head [(ao, .inl (T 3, 1, .inr (.inl f)))] (oC T (w, q, qz, h, qs, t, gr, u, tr, oc) (Sw, S, Z, Sh, Hs, X, Gg, U, K, O)) (oC T (w, q, qz, h, qs, t, gr, u, tr, oc) (Sw, S, Z, Sh, Hs, X, Gg, U, K, O)))) (cwV 2 hts gL_whyNot_X7_whyNot rfl rfl rfl (by decide +kernel) ⟨Nat.le_of_ble_eq_true rfl, Nat.le_of_ble_eq_true rfl⟩) (kN_full hP hD hS hA hE hK) hC (va_recv hK hP (ci := 7) (q0 := 1) rfl rfl) rfl hl.1 rfl (Nat.le_of_ble_eq_true rfl) dL_whyNot_5 ⟨Nat.le_of_ble_eq_true rfl, Nat.le_of_ble_eq_true rfl⟩ (fun E9 ce q9 H locs he hP hD hS h1 h2 h3 => ?_) (fun v H locs he => by cases he)
  cases he
  refine vx_catch (own := RL) (name := "java/lang/IndexOutOfBoundsException") (E := "java/lang/IndexOutOfBoundsException") hown [] ⟨0, 10, 13, 13⟩ [] (htab.trans rfl) (fun _ h9 => by cases h9) (by decide) (by decide) (hts (.classLink RL 13 "java/lang/IndexOutOfBoundsException") (by decide +kernel)) (va_Nw.use rfl (hC.1 "java/lang/IndexOutOfBoundsException" (by decide))) h1 h2 h3 ?_
  refine lv_astore (lv' := [(4, .ref q9), (0, .ref (w 0)), (1, .int (nI rr)), (2, .int y), (3, .ref ao)]) hx hb dL_whyNot_13 hl (by decide) rfl (fun ls hl => ?_)
  refine n_iconst hx hb 1 dL_whyNot_15 (by decide) ?_
  subst hQ
  exact vx_ret (W.widen (k := 1) (n := 6) (by decide) (by decide) (e_rwi hx hb hr hlocks hS rfl hP hD dL_whyNot_16))
