/-! the law's calls: its static wrappers (RWx), the reference's methods -/
theorem gNn.warm {s U : State} (h : gNn s) (hW : s.WarmedH U.vm) : gNn U := by
  have hA : s.vm.Alike U.vm := hW.alike
  exact gNn.moved hA h
section KLX
variable {p : Program} {l : Launch} {e : Env} {R : Room} {s : State} {m : MethodId} {args : Array Value} {below : List Frame} {meth : Method} {c : Code} {H : Heap} {locs : List Loc} {cells slots : Nat} {Q : State → Prop}
variable {y : MethodName} {bytes cc : ByteArray} {maxL nL n index d : Nat} {ret : Option FieldType} {hh : List (Nat × Nat × Nat × Nat)} {wz Ts : List Cond} {own : String} {As rest st0 : List Value} {G : va_G} {T : Nat → ClassId} {A : Nat → Prop} {wc : va_W} {v : Int32} {pc : Nat} {ls : Array Slot} {W0 wr w1 : va_W}
/-- a call of one of the law's wrappers -/
theorem k_lxS {isC isR : List Nat} (S : CallFix p m c cc nL s args Ts own) (hM : RWx l y wz d G T H.size wc As v w1) (cw : vx_CSW R s args own index y bytes maxL ret hh wz (rmD d 1 6) 1 6 n) (hN : kN G T A s H locs W0 wc wr isC isR) (hC9 : gC s) (hN9 : gNn s)
    (hn : As.length = n) (hsz : ls.size = nL) (hst : st0 = As.reverse ++ rest) (hW : (rest.map fun v => v.category).sum ≤ 8) (hdg : decode cc pc = .ok (.invokestatic index, 3)) (hf : cells + 1 ≤ R.cells ∧ slots + 6 ≤ R.slots)
    (kk : ∀ (H1 : Heap) (locs1 : List Loc), va_P G vwCl (wr ++ w1) H1 → va_D A (wr ++ w1) → va_S A s.heap H1 locs1 → H.size ≤ H1.size → W p l e R s m args below meth c H1 locs1 (cells + 1) (slots + 6) Q (F0 m (pc + 3) ls (.int v :: rest))) : W p l e R s m args below meth c H locs cells slots Q (F0 m pc ls st0) := by
  have hpre := hN.pre
  obtain ⟨hP, hD, hS, hA, hE, hK, hC, hnC, hR, hnR, hdis⟩ := hN
  have hF := va_free hD hS hA isC hC
  refine va_calli (vx_runSW S hM cw ⟨sXn_blind, fun U hU hW1 => ⟨rfl, ⟨hpre U hU hW1, hC9.warm hW1⟩, hN9.warm hW1⟩⟩ rfl hn hsz hst (lv_room hW) hdg hf) hS (fun q _ h => hF q h) hF (fun r u t H1 locs1 ht hvm hw hB hz hk hS1 => ?_)
  obtain ⟨hP1, hD1⟩ := hB
  rw [ht] at hP1
  obtain ⟨hP2, hD2⟩ := va_join hP hD isC isR hC hR hnR hdis hk hF hP1 hD1
  rw [hw]
  exact kk H1 locs1 hP2 hD2 hS1 hz
end KLX
