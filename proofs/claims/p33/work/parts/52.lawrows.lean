/-! the law's calls of static methods: its own, its wrappers (codes with handlers), those that may make an exception -/
theorem gNn.warm {s U : State} (h : gNn s) (hW : s.WarmedH U.vm) : gNn U := by
  have hA : s.vm.Alike U.vm := hW.alike
  exact gNn.moved hA h
section KLX
variable {p : Program} {l : Launch} {e : Env} {R : Room} {s : State} {m : MethodId} {args : Array Value} {below : List Frame} {meth : Method} {c : Code} {H : Heap} {locs : List Loc} {cells slots : Nat} {Q : State → Prop}
variable {y : MethodName} {bytes cc : ByteArray} {maxL nL n index d mc ms : Nat} {ret : Option FieldType} {hh : List (Nat × Nat × Nat × Nat)} {wz Ts : List Cond} {own : String} {As rest st0 : List Value} {G : va_G} {T : Nat → ClassId} {A : Nat → Prop} {wc : va_W} {pc : Nat} {ls : Array Slot} {W0 wr w1 : va_W}
/-- a static call that writes, an int -/
theorem k_rwS {v : Int32} {isC isR : List Nat} (S : CallFix p m c cc nL s args Ts own) (hM : RWi l y wz d mc ms G T H.size wc As v w1) (cw : CallB R s args own index y bytes maxL ret wz (rmD d mc ms) mc ms n ∧ (Cond.static y).before args s = true) (hN : kN G T A s H locs W0 wc wr isC isR)
    (hn : As.length = n) (hsz : ls.size = nL) (hst : st0 = As.reverse ++ rest) (hW : (rest.map fun v => v.category).sum ≤ 8) (hdg : decode cc pc = .ok (.invokestatic index, 3)) (hf : cells + mc ≤ R.cells ∧ slots + ms ≤ R.slots)
    (kk : ∀ (H1 : Heap) (locs1 : List Loc), va_P G vwCl (wr ++ w1) H1 → va_D A (wr ++ w1) → va_S A s.heap H1 locs1 → H.size ≤ H1.size → W p l e R s m args below meth c H1 locs1 (cells + mc) (slots + ms) Q (F0 m (pc + 3) ls (.int v :: rest))) : W p l e R s m args below meth c H locs cells slots Q (F0 m pc ls st0) := by
  have hpre := hN.pre
  obtain ⟨hP, hD, hS, hA, hE, hK, hC, hnC, hR, hnR, hdis⟩ := hN
  have hF := va_free hD hS hA isC hC
  refine va_calli (va_runS S hM cw ⟨sR_blind, fun U hU hW1 => ⟨rfl, hpre U hU hW1⟩⟩ rfl hn hsz hst (lv_room hW) hdg hf) hS (fun q _ h => hF q h) hF (fun r u t H1 locs1 ht hvm hw hB hz hk hS1 => ?_)
  obtain ⟨hP1, hD1⟩ := hB
  rw [ht] at hP1
  obtain ⟨hP2, hD2⟩ := va_join hP hD isC isR hC hR hnR hdis hk hF hP1 hD1
  rw [hw]
  exact kk H1 locs1 hP2 hD2 hS1 hz
/-- a static call that writes, a long -/
theorem k_rlS {v : Int64} {isC isR : List Nat} (S : CallFix p m c cc nL s args Ts own) (hM : RWl l y wz d mc ms G T H.size wc As v w1) (cw : CallB R s args own index y bytes maxL ret wz (rmD d mc ms) mc ms n ∧ (Cond.static y).before args s = true) (hN : kN G T A s H locs W0 wc wr isC isR)
    (hn : As.length = n) (hsz : ls.size = nL) (hst : st0 = As.reverse ++ rest) (hW : (rest.map fun v => v.category).sum ≤ 8) (hdg : decode cc pc = .ok (.invokestatic index, 3)) (hf : cells + mc ≤ R.cells ∧ slots + ms ≤ R.slots)
    (kk : ∀ (H1 : Heap) (locs1 : List Loc), va_P G vwCl (wr ++ w1) H1 → va_D A (wr ++ w1) → va_S A s.heap H1 locs1 → H.size ≤ H1.size → W p l e R s m args below meth c H1 locs1 (cells + mc) (slots + ms) Q (F0 m (pc + 3) ls (.long v :: rest))) : W p l e R s m args below meth c H locs cells slots Q (F0 m pc ls st0) := by
  have hpre := hN.pre
  obtain ⟨hP, hD, hS, hA, hE, hK, hC, hnC, hR, hnR, hdis⟩ := hN
  have hF := va_free hD hS hA isC hC
  refine va_calll (va_runS S hM cw ⟨sR_blind, fun U hU hW1 => ⟨rfl, hpre U hU hW1⟩⟩ rfl hn hsz hst (lv_room hW) hdg hf) hS (fun q _ h => hF q h) hF (fun r u t H1 locs1 ht hvm hw hB hz hk hS1 => ?_)
  obtain ⟨hP1, hD1⟩ := hB
  rw [ht] at hP1
  obtain ⟨hP2, hD2⟩ := va_join hP hD isC isR hC hR hnR hdis hk hF hP1 hD1
  rw [hw]
  exact kk H1 locs1 hP2 hD2 hS1 hz
/-- a call of a wrapper that throws nothing -/
theorem k_lwS {v : Int32} {isC isR : List Nat} (S : CallFix p m c cc nL s args Ts own) (hM : RWi l y wz d mc ms G T H.size wc As v w1) (cw : vx_CSW R s args own index y bytes maxL ret hh wz (rmD d mc ms) mc ms n) (hN : kN G T A s H locs W0 wc wr isC isR)
    (hn : As.length = n) (hsz : ls.size = nL) (hst : st0 = As.reverse ++ rest) (hW : (rest.map fun v => v.category).sum ≤ 8) (hdg : decode cc pc = .ok (.invokestatic index, 3)) (hf : cells + mc ≤ R.cells ∧ slots + ms ≤ R.slots)
    (kk : ∀ (H1 : Heap) (locs1 : List Loc), va_P G vwCl (wr ++ w1) H1 → va_D A (wr ++ w1) → va_S A s.heap H1 locs1 → H.size ≤ H1.size → W p l e R s m args below meth c H1 locs1 (cells + mc) (slots + ms) Q (F0 m (pc + 3) ls (.int v :: rest))) : W p l e R s m args below meth c H locs cells slots Q (F0 m pc ls st0) := by
  have hpre := hN.pre
  obtain ⟨hP, hD, hS, hA, hE, hK, hC, hnC, hR, hnR, hdis⟩ := hN
  have hF := va_free hD hS hA isC hC
  refine va_calli (vx_runSW S hM cw ⟨sR_blind, fun U hU hW1 => ⟨rfl, hpre U hU hW1⟩⟩ rfl hn hsz hst (lv_room hW) hdg hf) hS (fun q _ h => hF q h) hF (fun r u t H1 locs1 ht hvm hw hB hz hk hS1 => ?_)
  obtain ⟨hP1, hD1⟩ := hB
  rw [ht] at hP1
  obtain ⟨hP2, hD2⟩ := va_join hP hD isC isR hC hR hnR hdis hk hF hP1 hD1
  rw [hw]
  exact kk H1 locs1 hP2 hD2 hS1 hz
/-- a call of a wrapper that may have caught -/
theorem k_lxS {v : Int32} {isC isR : List Nat} (S : CallFix p m c cc nL s args Ts own) (hM : RWx l y wz d G T H.size wc As v w1) (cw : vx_CSW R s args own index y bytes maxL ret hh wz (rmD d 1 6) 1 6 n) (hN : kN G T A s H locs W0 wc wr isC isR) (hC9 : gC s) (hN9 : gNn s)
    (hn : As.length = n) (hsz : ls.size = nL) (hst : st0 = As.reverse ++ rest) (hW : (rest.map fun v => v.category).sum ≤ 8) (hdg : decode cc pc = .ok (.invokestatic index, 3)) (hf : cells + 1 ≤ R.cells ∧ slots + 6 ≤ R.slots)
    (kk : ∀ (H1 : Heap) (locs1 : List Loc), va_P G vwCl (wr ++ w1) H1 → va_D A (wr ++ w1) → va_S A s.heap H1 locs1 → H.size ≤ H1.size → W p l e R s m args below meth c H1 locs1 (cells + 1) (slots + 6) Q (F0 m (pc + 3) ls (.int v :: rest))) : W p l e R s m args below meth c H locs cells slots Q (F0 m pc ls st0) := by
  have hpre := hN.pre
  obtain ⟨hP, hD, hS, hA, hE, hK, hC, hnC, hR, hnR, hdis⟩ := hN
  have hF := va_free hD hS hA isC hC
  refine va_calli (vx_runSW S hM cw ⟨sXn_blind, fun U hU hW1 => ⟨rfl, ⟨hpre U hU hW1, hC9.warm hW1⟩, hN9.warm hW1⟩⟩ rfl hn hsz hst (lv_room hW) hdg hf) hS (fun q _ h => hF q h) hF (fun r u t H1 locs1 ht hvm hw hB hz hk hS1 => ?_)
  obtain ⟨hP1, hD1⟩ := hB
  rw [ht] at hP1
  obtain ⟨hP2, hD2⟩ := va_join hP hD isC isR hC hR hnR hdis hk hF hP1 hD1
  rw [hw]
  exact kk H1 locs1 hP2 hD2 hS1 hz
/-- a static call of a method whose wrapper may have caught -/
theorem k_rxS {v : Int32} {isC isR : List Nat} (S : CallFix p m c cc nL s args Ts own) (hM : RWx l y wz d G T H.size wc As v w1) (cw : CallB R s args own index y bytes maxL ret wz (rmD d 1 6) 1 6 n ∧ (Cond.static y).before args s = true) (hN : kN G T A s H locs W0 wc wr isC isR) (hC9 : gC s) (hN9 : gNn s)
    (hn : As.length = n) (hsz : ls.size = nL) (hst : st0 = As.reverse ++ rest) (hW : (rest.map fun v => v.category).sum ≤ 8) (hdg : decode cc pc = .ok (.invokestatic index, 3)) (hf : cells + 1 ≤ R.cells ∧ slots + 6 ≤ R.slots)
    (kk : ∀ (H1 : Heap) (locs1 : List Loc), va_P G vwCl (wr ++ w1) H1 → va_D A (wr ++ w1) → va_S A s.heap H1 locs1 → H.size ≤ H1.size → W p l e R s m args below meth c H1 locs1 (cells + 1) (slots + 6) Q (F0 m (pc + 3) ls (.int v :: rest))) : W p l e R s m args below meth c H locs cells slots Q (F0 m pc ls st0) := by
  have hpre := hN.pre
  obtain ⟨hP, hD, hS, hA, hE, hK, hC, hnC, hR, hnR, hdis⟩ := hN
  have hF := va_free hD hS hA isC hC
  refine va_calli (va_runS S hM cw ⟨sXn_blind, fun U hU hW1 => ⟨rfl, ⟨hpre U hU hW1, hC9.warm hW1⟩, hN9.warm hW1⟩⟩ rfl hn hsz hst (lv_room hW) hdg hf) hS (fun q _ h => hF q h) hF (fun r u t H1 locs1 ht hvm hw hB hz hk hS1 => ?_)
  obtain ⟨hP1, hD1⟩ := hB
  rw [ht] at hP1
  obtain ⟨hP2, hD2⟩ := va_join hP hD isC isR hC hR hnR hdis hk hF hP1 hD1
  rw [hw]
  exact kk H1 locs1 hP2 hD2 hS1 hz
end KLX
theorem RWx.fr {l : Launch} {y : MethodName} {wz : List Cond} {d : Nat} {G : va_G} {T : Nat → ClassId} {sz : Nat} {av : List Value} {W wc wr w1 W1 : va_W} {v : Int32} (hM : RWx l y wz d G T sz wc av v w1) (h : Fr W wc wr w1 W1) : RWx l y wz d G T sz W av v W1 := by
  unfold RWx Met at hM ⊢
  refine Jvm.Free.MetFree.mono hM (fun a s hp => ⟨hp.1, ⟨h.pre hp.2.1.1, hp.2.1.2⟩, hp.2.2⟩) (fun _ _ _ _ _ q => q) (fun a s o t hp hq => ?_)
  obtain ⟨⟨⟨r, u, h1, h2, h3⟩, hF⟩, L, h4, h5⟩ := hq
  exact ⟨⟨⟨r, u, h1, h2, h.post hp.2.1.1 hF h3⟩, h.F hF⟩, L, h4, fun q hq => h.free _ (h5 q hq)⟩
