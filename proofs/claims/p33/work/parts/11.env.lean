/-! what every method carries besides its own cells, and the forms of my contracts (written by wip/p33/mkenv.py) -/
def gNest : List (String × Nat × MethodName) := [(RX7, 9, yX3_init), (RX1, 17, yX3_init), (RX7, 28, yX5_init), (RX7, 35, yX0_init), (RX7, 42, yX6_init), (RX7, 49, yX4_init), (RX7, 56, yX2_init), (RX3, 87, yX7_hasBit)]
def gText : List (String × Nat × String) := [(RX7, 211, "no saved state"), (RX7, 175, "no such character"), (RX7, 178, "the buffer is full"), (RX7, 71, "no such message"), (RX7, 82, "the buffer is not a tune"), (RX7, 91, "the tune cannot be taught"), (RX7, 164, "no such room or message"), (RX7, 170, "it cannot be whistled"), (RX7, 124, "no such room"), (RX7, 116, "no such key"), (RX7, 129, "no such floor"), (RX7, 139, "no such master or message"), (RX7, 154, "no such setting"), (RX7, 159, "the value is out of range"), (RX7, 206, "no such number"), (RX7, 227, "no such place"), (RX7, 287, "no such mask"), (RX7, 273, "no such key or way")]
def gByt : List (List Int32) := [[99, 100, 101, 102, 103, 97, 104]]
def gE (A : Nat → Prop) (U : State) (H : Heap) : Prop :=
  (∀ q ∈ gNest, va_Nw (.methodLinkNest q.1 q.2.1 q.2.2 RX7) U) ∧ (∀ q ∈ gText, ∃ a : Nat, vk_R q.1 q.2.1 q.2.2 a U) ∧
  (∃ adK adV : Nat → Nat, vk_S 1 [7] gByt adK adV A U H ∧ vk_R RX0 56 "cdefgah" (adK 0) U ∧ vk_R RX6 34 "cdefgah" (adK 0) U) ∧
  va_Z "java/lang/String" "COMPACT_STRINGS" "Z" (.int 1) A U H ∧ vx_Zq Bundle.tN "UNASSIGNED_STACK" Bundle.steD A U H ∧ vx_Zq Bundle.tN "SUPPRESSED_SENTINEL" Bundle.listD A U H
theorem gE.warm {A : Nat → Prop} {s U : State} {H : Heap} (hW : s.WarmedH U.vm) (h : gE A s H) : gE A U H := by
  obtain ⟨h1, h2, ⟨adK, adV, h3, h4⟩, h5, h6, h7⟩ := h
  refine ⟨fun q hq => va_Nw.warmM hW (h1 q hq), fun q hq => ?_, ⟨adK, adV, h3.moved hW.alike, ?_⟩, h5.moved hW.alike, h6.moved hW.alike, h7.moved hW.alike⟩
  · obtain ⟨a, ha⟩ := h2 q hq
    exact ⟨a, ha.warm hW⟩
  · exact ⟨h4.1.warm hW, h4.2.warm hW⟩
theorem gE.same {A : Nat → Prop} {s U : State} {H : Heap} (hv : U.vm = s.vm) (h : gE A s H) : gE A U H := by
  have hal : s.vm.Alike U.vm := by rw [hv]; exact Vm.Alike.refl _
  obtain ⟨h1, h2, ⟨adK, adV, h3, h4⟩, h5, h6, h7⟩ := h
  refine ⟨fun q hq => va_Nw.same rfl hv.symm (h1 q hq), fun q hq => ?_, ⟨adK, adV, h3.moved hal, ?_⟩, h5.moved hal, h6.moved hal, h7.moved hal⟩
  · obtain ⟨a, ha⟩ := h2 q hq
    exact ⟨a, ha.same hv⟩
  · exact ⟨h4.1.same hv, h4.2.same hv⟩
theorem gE.kept {A : Nat → Prop} {U : State} {H H1 : Heap} (h : gE A U H) (hq : ∀ a : Nat, a < H.size → ¬ A a → H1[a]? = H[a]?) : gE A U H1 := by
  obtain ⟨h1, h2, ⟨adK, adV, h3, h4⟩, h5, h6, h7⟩ := h
  exact ⟨h1, h2, ⟨adK, adV, h3.kept hq, h4⟩, h5.kept hq, h6.kept hq, h7.kept hq⟩
theorem gE.narrow {A B : Nat → Prop} {U : State} {H : Heap} (h : gE A U H) (hAB : ∀ q, B q → A q) : gE B U H := by
  obtain ⟨h1, h2, ⟨adK, adV, h3, h4⟩, h5, h6, h7⟩ := h
  exact ⟨h1, h2, ⟨adK, adV, h3.narrow hAB, h4⟩, h5.narrow hAB, h6.narrow hAB, h7.narrow hAB⟩
/-- the array classes: ints, chars, schools -/
abbrev tyL (T : Nat → ClassId) : List (ClassId × FieldType) := [(T 0, .int), (T 1, .char), (T 2, .object RX3)]
def sB (G : va_G) (T : Nat → ClassId) (A : Nat → Prop) (ws : va_W) (U : State) : Prop := va_P G vwCl ws U.heap ∧ va_K G vwCl (tyL T) U ∧ gE A U U.heap
theorem sB_blind {G : va_G} {T : Nat → ClassId} {A : Nat → Prop} {ws : va_W} {av : List Value} : FrameBlind (va_Pc av (sB G T A ws)) := by
  rintro a U g mk ⟨h0, h1, h2, h3⟩
  exact ⟨h0, h1, va_K.moved (u := U) (U := U.calling g mk a) (Vm.Alike.refl U.vm) h2, gE.same (s := U) (U := U.calling g mk a) rfl h3⟩
/-- a method that only reads and answers the int v -/
def RO (l : Launch) (y : MethodName) (wz : List Cond) (d : Nat) (G : va_G) (T : Nat → ClassId) (A : Nat → Prop) (ws : va_W) (av : List Value) (v : Int32) : Prop := Met l y wz (rmD d 0 0) (va_Pc av (sB G T A ws)) (vp_Si (fun r => r = v)) 0 0 (fun _ => False)
def sR (G : va_G) (T : Nat → ClassId) (sz : Nat) (ws : va_W) (U : State) : Prop := U.heap.size = sz ∧ va_P G vwCl ws U.heap ∧ va_K G vwCl (tyL T) U ∧ va_D (fun _ => True) ws ∧ gE (va_A ws sz) U U.heap
theorem sR_blind {G : va_G} {T : Nat → ClassId} {sz : Nat} {ws : va_W} {av : List Value} : FrameBlind (va_Pc av (sR G T sz ws)) := by
  rintro a U g mk ⟨h0, h1, h2, h3, h4, h5⟩
  exact ⟨h0, h1, h2, va_K.moved (u := U) (U := U.calling g mk a) (Vm.Alike.refl U.vm) h3, h4, gE.same (s := U) (U := U.calling g mk a) rfl h5⟩
def sP (G : va_G) (A : Nat → Prop) (w1 : va_W) (t : State) : Prop := va_P G vwCl w1 t.heap ∧ va_D A w1
/-- a method that writes: the world ws becomes w1, the answer is v -/
def RWi (l : Launch) (y : MethodName) (wz : List Cond) (d mc ms : Nat) (G : va_G) (T : Nat → ClassId) (sz : Nat) (ws : va_W) (av : List Value) (v : Int32) (w1 : va_W) : Prop := Met l y wz (rmD d mc ms) (va_Pc av (sR G T sz ws)) (va_Qi (fun (r : Int32) (_ : Unit) => r = v) (fun _ t => sP G (va_A ws sz) w1 t) (va_A ws sz)) mc ms (va_A ws sz)
def RWv (l : Launch) (y : MethodName) (wz : List Cond) (d mc ms : Nat) (G : va_G) (T : Nat → ClassId) (sz : Nat) (ws : va_W) (av : List Value) (w1 : va_W) : Prop := Met l y wz (rmD d mc ms) (va_Pc av (sR G T sz ws)) (va_Qv (fun (_ : Unit) => True) (fun _ t => sP G (va_A ws sz) w1 t) (va_A ws sz)) mc ms (va_A ws sz)
def RWl (l : Launch) (y : MethodName) (wz : List Cond) (d mc ms : Nat) (G : va_G) (T : Nat → ClassId) (sz : Nat) (ws : va_W) (av : List Value) (v : Int64) (w1 : va_W) : Prop := Met l y wz (rmD d mc ms) (va_Pc av (sR G T sz ws)) (va_Ql (fun (r : Int64) (_ : Unit) => r = v) (fun _ t => sP G (va_A ws sz) w1 t) (va_A ws sz)) mc ms (va_A ws sz)
def RWd (l : Launch) (y : MethodName) (wz : List Cond) (d mc ms : Nat) (G : va_G) (T : Nat → ClassId) (sz : Nat) (ws : va_W) (av : List Value) (v : UInt64) (w1 : va_W) : Prop := Met l y wz (rmD d mc ms) (va_Pc av (sR G T sz ws)) (va_Qd (fun (r : UInt64) (_ : Unit) => r = v) (fun _ t => sP G (va_A ws sz) w1 t) (va_A ws sz)) mc ms (va_A ws sz)
section KC
variable {p : Program} {l : Launch} {e : Env} {R : Room} {s : State} {m : MethodId} {args : Array Value} {below : List Frame} {meth : Method} {c : Code} {H : Heap} {locs : List Loc} {cells slots : Nat} {Q : State → Prop}
variable {y : MethodName} {bytes cc : ByteArray} {maxL nL n index d : Nat} {ret : Option FieldType} {wz Ts : List Cond} {own C : String} {b : Addr} {As rest st0 : List Value} {G : va_G} {T : Nat → ClassId} {A A1 : Nat → Prop} {wc : va_W} {v : Int32} {pc : Nat} {ls : Array Slot}
theorem k_roV (S : CallFix p m c cc nL s args Ts own) (hM : RO l y wz d G T A1 wc (.ref b :: As) v) (cw : CallW R s args own C index y bytes maxL ret wz (rmD d 0 0) 0 0 n) (hP : va_P G vwCl wc H) (hK : va_K G vwCl (tyL T) s) (hE : gE A1 s H) (hrecv : ∃ cellB : Cell, H[b]? = some cellB ∧ cellB.vm.isStatics = false ∧ s.vm.findClass C = some cellB.cls)
    (hn : As.length = n) (hsz : ls.size = nL) (hst : st0 = As.reverse ++ .ref b :: rest) (hW : (rest.map fun v => v.category).sum ≤ 8) (hdg : decode cc pc = .ok (.invokevirtual index, 3)) (hf : cells + 0 ≤ R.cells ∧ slots + 0 ≤ R.slots)
    (kk : W p l e R s m args below meth c H locs cells slots Q (F0 m (pc + 3) ls (.int v :: rest))) : W p l e R s m args below meth c H locs cells slots Q (F0 m pc ls st0) :=
  vp_callSi (W.runV S hM cw ⟨sB_blind, hrecv, fun U hU hW1 => ⟨rfl, by rw [hU]; exact hP, hK.moved hW1.alike, by rw [hU]; exact hE.warm hW1⟩⟩ rfl hn hsz hst (lv_room hW) hdg hf) (fun r hr => by rw [hr]; exact kk)
theorem k_roS (S : CallFix p m c cc nL s args Ts own) (hM : RO l y wz d G T A1 wc As v) (cw : CallB R s args own index y bytes maxL ret wz (rmD d 0 0) 0 0 n ∧ (Cond.static y).before args s = true) (hP : va_P G vwCl wc H) (hK : va_K G vwCl (tyL T) s) (hE : gE A1 s H)
    (hn : As.length = n) (hsz : ls.size = nL) (hst : st0 = As.reverse ++ rest) (hW : (rest.map fun v => v.category).sum ≤ 8) (hdg : decode cc pc = .ok (.invokestatic index, 3)) (hf : cells + 0 ≤ R.cells ∧ slots + 0 ≤ R.slots)
    (kk : W p l e R s m args below meth c H locs cells slots Q (F0 m (pc + 3) ls (.int v :: rest))) : W p l e R s m args below meth c H locs cells slots Q (F0 m pc ls st0) :=
  vp_callSi (W.runS S hM cw ⟨sB_blind, fun U hU hW1 => ⟨rfl, by rw [hU]; exact hP, hK.moved hW1.alike, by rw [hU]; exact hE.warm hW1⟩⟩ rfl hn hsz hst (lv_room hW) hdg hf) (fun r hr => by rw [hr]; exact kk)
theorem k_roN {host : String} (S : CallFix p m c cc nL s args Ts own) (hM : RO l y wz d G T A1 wc As v) (cw : va_CN R s args own index y host bytes maxL ret wz (rmD d 0 0) 0 0 n ∧ (Cond.static y).before args s = true ∧ True) (hP : va_P G vwCl wc H) (hK : va_K G vwCl (tyL T) s) (hE : gE A1 s H)
    (hn : As.length = n) (hsz : ls.size = nL) (hst : st0 = As.reverse ++ rest) (hW : (rest.map fun v => v.category).sum ≤ 8) (hdg : decode cc pc = .ok (.invokestatic index, 3)) (hf : cells + 0 ≤ R.cells ∧ slots + 0 ≤ R.slots)
    (kk : W p l e R s m args below meth c H locs cells slots Q (F0 m (pc + 3) ls (.int v :: rest))) : W p l e R s m args below meth c H locs cells slots Q (F0 m pc ls st0) :=
  vp_callSi (va_Run.run (va_runSN S hM cw ⟨sB_blind, fun U hU hW1 => ⟨rfl, by rw [hU]; exact hP, hK.moved hW1.alike, by rw [hU]; exact hE.warm hW1⟩⟩ rfl hn hsz hst (lv_room hW) hdg hf)) (fun r hr => by rw [hr]; exact kk)
variable {mc ms : Nat} {W0 wr w1 : va_W}
/-- what a call of a writing method needs of the caller's world -/
def kN (G : va_G) (T : Nat → ClassId) (A : Nat → Prop) (s : State) (H : Heap) (locs : List Loc) (W0 wc wr : va_W) (isC isR : List Nat) : Prop :=
  va_P G vwCl W0 H ∧ va_D A W0 ∧ va_S A s.heap H locs ∧ (∀ q, s.heap.size ≤ q → A q) ∧ gE A s s.heap ∧ va_K G vwCl (tyL T) s ∧ isC.map (fun i => W0[i]?) = wc.map some ∧ va_nd isC = true ∧ isR.map (fun i => W0[i]?) = wr.map some ∧ va_nd isR = true ∧ ∀ i ∈ isR, i ∉ isC
theorem kN.sub {is : List Nat} {w : va_W} (hP : va_P G vwCl W0 H) (h : is.map (fun i => W0[i]?) = w.map some) : va_P G vwCl w H := by
  intro k q hk
  have h1 : (is.map (fun i => W0[i]?))[k]? = some (some q) := by rw [h, List.getElem?_map, hk]; rfl
  rw [List.getElem?_map] at h1
  cases hi : is[k]? with
  | none => rw [hi] at h1; cases h1
  | some i => rw [hi] at h1; exact hP i q (Option.some.inj h1)
theorem kN.pre {isC isR : List Nat} (h : kN G T A s H locs W0 wc wr isC isR) : ∀ U : State, U.heap = H → s.WarmedH U.vm → sR G T H.size wc U := by
  obtain ⟨hP, hD, hS, hA, hE, hK, hC, hnC, hR, hnR, hdis⟩ := h
  intro U hU hW1
  have hF := va_free hD hS hA isC hC
  exact ⟨by rw [hU], by rw [hU]; exact kN.sub hP hC, hK.moved hW1.alike, (hD.sub isC hnC hC).weaken (fun _ _ _ _ => trivial), by rw [hU]; exact ((hE.kept hS.2.1).narrow hF).warm hW1⟩
theorem k_rwV {isC isR : List Nat} (S : CallFix p m c cc nL s args Ts own) (hM : RWi l y wz d mc ms G T H.size wc (.ref b :: As) v w1) (cw : CallW R s args own C index y bytes maxL ret wz (rmD d mc ms) mc ms n) (hN : kN G T A s H locs W0 wc wr isC isR) (hrecv : ∃ cellB : Cell, H[b]? = some cellB ∧ cellB.vm.isStatics = false ∧ s.vm.findClass C = some cellB.cls)
    (hn : As.length = n) (hsz : ls.size = nL) (hst : st0 = As.reverse ++ .ref b :: rest) (hW : (rest.map fun v => v.category).sum ≤ 8) (hdg : decode cc pc = .ok (.invokevirtual index, 3)) (hf : cells + mc ≤ R.cells ∧ slots + ms ≤ R.slots)
    (kk : ∀ (H1 : Heap) (locs1 : List Loc), va_P G vwCl (wr ++ w1) H1 → va_D A (wr ++ w1) → va_S A s.heap H1 locs1 → H.size ≤ H1.size → W p l e R s m args below meth c H1 locs1 (cells + mc) (slots + ms) Q (F0 m (pc + 3) ls (.int v :: rest))) : W p l e R s m args below meth c H locs cells slots Q (F0 m pc ls st0) := by
  have hpre := hN.pre
  obtain ⟨hP, hD, hS, hA, hE, hK, hC, hnC, hR, hnR, hdis⟩ := hN
  have hF := va_free hD hS hA isC hC
  refine va_calli (va_runV S hM cw ⟨sR_blind, hrecv, fun U hU hW1 => ⟨rfl, hpre U hU hW1⟩⟩ rfl hn hsz hst (lv_room hW) hdg hf) hS (fun q _ h => hF q h) hF (fun r u t H1 locs1 ht hvm hw hB hz hk hS1 => ?_)
  obtain ⟨hP1, hD1⟩ := hB
  rw [ht] at hP1
  obtain ⟨hP2, hD2⟩ := va_join hP hD isC isR hC hR hnR hdis hk hF hP1 hD1
  rw [hw]
  exact kk H1 locs1 hP2 hD2 hS1 hz
theorem k_rvV {isC isR : List Nat} (S : CallFix p m c cc nL s args Ts own) (hM : RWv l y wz d mc ms G T H.size wc (.ref b :: As) w1) (cw : CallW R s args own C index y bytes maxL ret wz (rmD d mc ms) mc ms n) (hN : kN G T A s H locs W0 wc wr isC isR) (hrecv : ∃ cellB : Cell, H[b]? = some cellB ∧ cellB.vm.isStatics = false ∧ s.vm.findClass C = some cellB.cls)
    (hn : As.length = n) (hsz : ls.size = nL) (hst : st0 = As.reverse ++ .ref b :: rest) (hW : (rest.map fun v => v.category).sum ≤ 8) (hdg : decode cc pc = .ok (.invokevirtual index, 3)) (hf : cells + mc ≤ R.cells ∧ slots + ms ≤ R.slots)
    (kk : ∀ (H1 : Heap) (locs1 : List Loc), va_P G vwCl (wr ++ w1) H1 → va_D A (wr ++ w1) → va_S A s.heap H1 locs1 → H.size ≤ H1.size → W p l e R s m args below meth c H1 locs1 (cells + mc) (slots + ms) Q (F0 m (pc + 3) ls rest)) : W p l e R s m args below meth c H locs cells slots Q (F0 m pc ls st0) := by
  have hpre := hN.pre
  obtain ⟨hP, hD, hS, hA, hE, hK, hC, hnC, hR, hnR, hdis⟩ := hN
  have hF := va_free hD hS hA isC hC
  refine va_callv (va_runV S hM cw ⟨sR_blind, hrecv, fun U hU hW1 => ⟨rfl, hpre U hU hW1⟩⟩ rfl hn hsz hst (lv_room hW) hdg hf) hS (fun q _ h => hF q h) hF (fun u t H1 locs1 ht hvm hw hB hz hk hS1 => ?_)
  obtain ⟨hP1, hD1⟩ := hB
  rw [ht] at hP1
  obtain ⟨hP2, hD2⟩ := va_join hP hD isC isR hC hR hnR hdis hk hF hP1 hD1
  exact kk H1 locs1 hP2 hD2 hS1 hz
theorem k_rlV {isC isR : List Nat} {v : Int64} (S : CallFix p m c cc nL s args Ts own) (hM : RWl l y wz d mc ms G T H.size wc (.ref b :: As) v w1) (cw : CallW R s args own C index y bytes maxL ret wz (rmD d mc ms) mc ms n) (hN : kN G T A s H locs W0 wc wr isC isR) (hrecv : ∃ cellB : Cell, H[b]? = some cellB ∧ cellB.vm.isStatics = false ∧ s.vm.findClass C = some cellB.cls)
    (hn : As.length = n) (hsz : ls.size = nL) (hst : st0 = As.reverse ++ .ref b :: rest) (hW : (rest.map fun v => v.category).sum ≤ 8) (hdg : decode cc pc = .ok (.invokevirtual index, 3)) (hf : cells + mc ≤ R.cells ∧ slots + ms ≤ R.slots)
    (kk : ∀ (H1 : Heap) (locs1 : List Loc), va_P G vwCl (wr ++ w1) H1 → va_D A (wr ++ w1) → va_S A s.heap H1 locs1 → H.size ≤ H1.size → W p l e R s m args below meth c H1 locs1 (cells + mc) (slots + ms) Q (F0 m (pc + 3) ls (.long v :: rest))) : W p l e R s m args below meth c H locs cells slots Q (F0 m pc ls st0) := by
  have hpre := hN.pre
  obtain ⟨hP, hD, hS, hA, hE, hK, hC, hnC, hR, hnR, hdis⟩ := hN
  have hF := va_free hD hS hA isC hC
  refine va_calll (va_runV S hM cw ⟨sR_blind, hrecv, fun U hU hW1 => ⟨rfl, hpre U hU hW1⟩⟩ rfl hn hsz hst (lv_room hW) hdg hf) hS (fun q _ h => hF q h) hF (fun r u t H1 locs1 ht hvm hw hB hz hk hS1 => ?_)
  obtain ⟨hP1, hD1⟩ := hB
  rw [ht] at hP1
  obtain ⟨hP2, hD2⟩ := va_join hP hD isC isR hC hR hnR hdis hk hF hP1 hD1
  rw [hw]
  exact kk H1 locs1 hP2 hD2 hS1 hz
theorem k_rdV {isC isR : List Nat} {v : UInt64} (S : CallFix p m c cc nL s args Ts own) (hM : RWd l y wz d mc ms G T H.size wc (.ref b :: As) v w1) (cw : CallW R s args own C index y bytes maxL ret wz (rmD d mc ms) mc ms n) (hN : kN G T A s H locs W0 wc wr isC isR) (hrecv : ∃ cellB : Cell, H[b]? = some cellB ∧ cellB.vm.isStatics = false ∧ s.vm.findClass C = some cellB.cls)
    (hn : As.length = n) (hsz : ls.size = nL) (hst : st0 = As.reverse ++ .ref b :: rest) (hW : (rest.map fun v => v.category).sum ≤ 8) (hdg : decode cc pc = .ok (.invokevirtual index, 3)) (hf : cells + mc ≤ R.cells ∧ slots + ms ≤ R.slots)
    (kk : ∀ (H1 : Heap) (locs1 : List Loc), va_P G vwCl (wr ++ w1) H1 → va_D A (wr ++ w1) → va_S A s.heap H1 locs1 → H.size ≤ H1.size → W p l e R s m args below meth c H1 locs1 (cells + mc) (slots + ms) Q (F0 m (pc + 3) ls (.double v :: rest))) : W p l e R s m args below meth c H locs cells slots Q (F0 m pc ls st0) := by
  have hpre := hN.pre
  obtain ⟨hP, hD, hS, hA, hE, hK, hC, hnC, hR, hnR, hdis⟩ := hN
  have hF := va_free hD hS hA isC hC
  refine va_calld (va_runV S hM cw ⟨sR_blind, hrecv, fun U hU hW1 => ⟨rfl, hpre U hU hW1⟩⟩ rfl hn hsz hst (lv_room hW) hdg hf) hS (fun q _ h => hF q h) hF (fun r u t H1 locs1 ht hvm hw hB hz hk hS1 => ?_)
  obtain ⟨hP1, hD1⟩ := hB
  rw [ht] at hP1
  obtain ⟨hP2, hD2⟩ := va_join hP hD isC isR hC hR hnR hdis hk hF hP1 hD1
  rw [hw]
  exact kk H1 locs1 hP2 hD2 hS1 hz
/-- the ends -/
theorem e_ro {v0 : Int32} (hx : p.tables.exec = Jvm.exec) (hb : c.code = cc) (hr : meth.sig.returnType = some .int) (hlocks : meth.locks = false) (h : v = v0) (hdg : decode cc pc = .ok (.ireturn, 1)) : W p l e R s m args below meth c s.heap [] 0 0 (MQ below (vp_Si (fun r => r = v0)) args s 0 0 (fun _ => False)) (F0 m pc ls [.int v]) :=
  W.iret hx hb hr (fun t ht _ => ⟨v, rfl, h, ht⟩) (fun _ h => by cases h) hdg hlocks
theorem e_roz {v0 : Int32} {ty : FieldType} (hx : p.tables.exec = Jvm.exec) (hb : c.code = cc) (hr : meth.sig.returnType = some ty) (hlocks : meth.locks = false) (hn : narrow ty (.int v) = .int v) (h : v = v0) (hdg : decode cc pc = .ok (.ireturn, 1)) : W p l e R s m args below meth c s.heap [] 0 0 (MQ below (vp_Si (fun r => r = v0)) args s 0 0 (fun _ => False)) (F0 m pc ls [.int v]) :=
  W.zret hx hb hr hn (fun t ht _ => ⟨v, rfl, h, ht⟩) (fun _ h => by cases h) hdg hlocks
theorem e_rwi {v0 : Int32} (hx : p.tables.exec = Jvm.exec) (hb : c.code = cc) (hr : meth.sig.returnType = some .int) (hlocks : meth.locks = false) (hS : va_S A s.heap H locs) (h : v = v0) (hP : va_P G vwCl w1 H) (hD : va_D A w1) (hdg : decode cc pc = .ok (.ireturn, 1)) : W p l e R s m args below meth c H locs cells slots (MQ below (va_Qi (fun (r : Int32) (_ : Unit) => r = v0) (fun _ t => sP G A w1 t) A) args s cells slots A) (F0 m pc ls [.int v]) :=
  W.iret hx hb hr (fun t ht _ => ⟨⟨v, (), rfl, h, by rw [ht]; exact hP, hD⟩, hS.F ht⟩) hS.2.2 hdg hlocks
theorem e_rwz {v0 : Int32} {ty : FieldType} (hx : p.tables.exec = Jvm.exec) (hb : c.code = cc) (hr : meth.sig.returnType = some ty) (hlocks : meth.locks = false) (hn : narrow ty (.int v) = .int v) (hS : va_S A s.heap H locs) (h : v = v0) (hP : va_P G vwCl w1 H) (hD : va_D A w1) (hdg : decode cc pc = .ok (.ireturn, 1)) : W p l e R s m args below meth c H locs cells slots (MQ below (va_Qi (fun (r : Int32) (_ : Unit) => r = v0) (fun _ t => sP G A w1 t) A) args s cells slots A) (F0 m pc ls [.int v]) :=
  W.zret hx hb hr hn (fun t ht _ => ⟨⟨v, (), rfl, h, by rw [ht]; exact hP, hD⟩, hS.F ht⟩) hS.2.2 hdg hlocks
theorem e_rwv (hx : p.tables.exec = Jvm.exec) (hb : c.code = cc) (hr : meth.sig.returnType = none) (hlocks : meth.locks = false) (hS : va_S A s.heap H locs) (hP : va_P G vwCl w1 H) (hD : va_D A w1) (hdg : decode cc pc = .ok (.return_, 1)) : W p l e R s m args below meth c H locs cells slots (MQ below (va_Qv (fun (_ : Unit) => True) (fun _ t => sP G A w1 t) A) args s cells slots A) (F0 m pc ls []) :=
  W.vret hx hb hr (fun t ht _ => ⟨⟨(), rfl, trivial, by rw [ht]; exact hP, hD⟩, hS.F ht⟩) hS.2.2 hdg hlocks
theorem e_rwl {v v0 : Int64} (hx : p.tables.exec = Jvm.exec) (hb : c.code = cc) (hr : meth.sig.returnType = some .long) (hlocks : meth.locks = false) (hS : va_S A s.heap H locs) (h : v = v0) (hP : va_P G vwCl w1 H) (hD : va_D A w1) (hdg : decode cc pc = .ok (.lreturn, 1)) : W p l e R s m args below meth c H locs cells slots (MQ below (va_Ql (fun (r : Int64) (_ : Unit) => r = v0) (fun _ t => sP G A w1 t) A) args s cells slots A) (F0 m pc ls [.long v]) :=
  W.lret hx hb hr (fun t ht _ => ⟨⟨v, (), rfl, h, by rw [ht]; exact hP, hD⟩, hS.F ht⟩) hS.2.2 hdg hlocks
theorem e_rwd {v v0 : UInt64} (hx : p.tables.exec = Jvm.exec) (hb : c.code = cc) (hr : meth.sig.returnType = some .double) (hlocks : meth.locks = false) (hS : va_S A s.heap H locs) (h : v = v0) (hP : va_P G vwCl w1 H) (hD : va_D A w1) (hdg : decode cc pc = .ok (.dreturn, 1)) : W p l e R s m args below meth c H locs cells slots (MQ below (va_Qd (fun (r : UInt64) (_ : Unit) => r = v0) (fun _ t => sP G A w1 t) A) args s cells slots A) (F0 m pc ls [.double v]) :=
  W.dret hx hb hr (fun t ht _ => ⟨⟨v, (), rfl, h, by rw [ht]; exact hP, hD⟩, hS.F ht⟩) hS.2.2 hdg hlocks
end KC
/-- an object of WhistleTunes$Grammar: S 0 its numbers, S (k + 1) its array k -/
abbrev oX0 (T : Nat → ClassId) (q : Nat → Nat) (S : Nat → Nat → Int32) : va_W := [(q 0, .inr (0, [.int (S 0 0), .int (S 0 1), .int (S 0 2)]))]
/-- an object of WhistleTunes$Outcome: S 0 its numbers, S (k + 1) its array k -/
abbrev oX2 (T : Nat → ClassId) (q : Nat → Nat) (S : Nat → Nat → Int32) : va_W := [(q 0, .inr (2, [.int (S 0 0), .int (S 0 1), .int (S 0 2), .int (S 0 3), .int (S 0 4)]))]
/-- an object of WhistleTunes$School: S 0 its numbers, S (k + 1) its array k -/
abbrev oX3 (T : Nat → ClassId) (q : Nat → Nat) (S : Nat → Nat → Int32) : va_W := [(q 0, .inr (3, [.int (S 0 0), .int (S 0 1), .int (S 0 2), .int (S 0 3), .ref (q 5), .ref (q 6), .ref (q 7), .ref (q 8), .ref (q 9), .ref (q 10), .ref (q 11), .ref (q 12), .ref (q 13), .ref (q 14), .ref (q 15), .ref (q 16)])), (q 5, .inl (T 0, 2, .inl (S 5))), (q 6, .inl (T 0, 20, .inl (S 6))), (q 7, .inl (T 0, 160, .inl (S 7))), (q 8, .inl (T 0, 20, .inl (S 8))), (q 9, .inl (T 0, 20, .inl (S 9))), (q 10, .inl (T 0, 20, .inl (S 10))), (q 11, .inl (T 0, 6, .inl (S 11))), (q 12, .inl (T 0, 6, .inl (S 12))), (q 13, .inl (T 0, 6, .inl (S 13))), (q 14, .inl (T 0, 6, .inl (S 14))), (q 15, .inl (T 0, 6, .inl (S 15))), (q 16, .inl (T 0, 2, .inl (S 16)))]
/-- an object of WhistleTunes$ShapeTree: S 0 its numbers, S (k + 1) its array k -/
abbrev oX4 (T : Nat → ClassId) (q : Nat → Nat) (S : Nat → Nat → Int32) : va_W := [(q 0, .inr (4, [.ref (q 1), .ref (q 2), .int (S 0 2)])), (q 1, .inl (T 0, 1127, .inl (S 1))), (q 2, .inl (T 0, 161, .inl (S 2)))]
/-- an object of WhistleTunes$Text: S 0 its numbers, S (k + 1) its array k -/
abbrev oX5 (T : Nat → ClassId) (q : Nat → Nat) (S : Nat → Nat → Int32) : va_W := [(q 0, .inr (5, [.ref (q 1), .int (S 0 1)])), (q 1, .inl (T 1, 60, .inl (S 1)))]
/-- an object of WhistleTunes$Tune: S 0 its numbers, S (k + 1) its array k -/
abbrev oX6 (T : Nat → ClassId) (q : Nat → Nat) (S : Nat → Nat → Int32) : va_W := [(q 0, .inr (6, [.ref (q 1), .ref (q 2), .int (S 0 2)])), (q 1, .inl (T 0, 9, .inl (S 1))), (q 2, .inl (T 0, 3, .inl (S 2)))]
