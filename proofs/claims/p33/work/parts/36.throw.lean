/-! contracts of methods that answer an int or throw: o = .inl v or .inr (the class's name) -/
def gExc : List String := ["java/lang/IndexOutOfBoundsException", "java/lang/IllegalArgumentException", "java/lang/IllegalStateException"]
def gSup : List String := ["java/lang/RuntimeException", "java/lang/Exception", Bundle.tN]
def gC (U : State) : Prop := (∀ q ∈ gExc, va_Nw (.castable q q) U) ∧ ∀ q ∈ gSup, va_Nw (.declares (Bundle.initS q)) U
theorem gC.warm {s U : State} (hW : s.WarmedH U.vm) (h : gC s) : gC U := ⟨fun q hq => va_Nw.warmC hW (h.1 q hq), fun q hq => va_Nw.warmD hW (h.2 q hq)⟩
theorem gC.same {s U : State} (hv : U.vm = s.vm) (h : gC s) : gC U := ⟨fun q hq => va_Nw.same rfl hv.symm (h.1 q hq), fun q hq => va_Nw.same rfl hv.symm (h.2 q hq)⟩
def sX (G : va_G) (T : Nat → ClassId) (sz : Nat) (ws : va_W) (U : State) : Prop := sR G T sz ws U ∧ gC U
theorem sX_blind {G : va_G} {T : Nat → ClassId} {sz : Nat} {ws : va_W} {av : List Value} : FrameBlind (va_Pc av (sX G T sz ws)) := by
  rintro a U g mk ⟨h0, ⟨h1, h2, h3, h4, h5⟩, h6⟩
  exact ⟨h0, ⟨h1, h2, va_K.moved (u := U) (U := U.calling g mk a) (Vm.Alike.refl U.vm) h3, h4, gE.same (s := U) (U := U.calling g mk a) rfl h5⟩, gC.same (s := U) (U := U.calling g mk a) rfl h6⟩
def xB (G : va_G) (A : Nat → Prop) (o : Int32 ⊕ String) (w1 : va_W) : String → Unit → State → Prop := fun E _ t => o = .inr E ∧ sP G A w1 t
def RX (l : Launch) (y : MethodName) (wz : List Cond) (d : Nat) (G : va_G) (T : Nat → ClassId) (sz : Nat) (ws : va_W) (av : List Value) (o : Int32 ⊕ String) (w1 : va_W) : Prop := vx_Met l y wz (rmD d 1 6) (va_Pc av (sX G T sz ws)) (va_Qi (fun (r : Int32) (_ : Unit) => o = .inl r) (fun _ t => sP G (va_A ws sz) w1 t) (va_A ws sz)) (vx_X (fun (_ : Unit) => True) (xB G (va_A ws sz) o w1) (va_A ws sz)) 1 6 (va_A ws sz)
section KX
variable {p : Program} {l : Launch} {e : Env} {R : Room} {s : State} {m : MethodId} {args : Array Value} {below : List Frame} {meth : Method} {c : Code} {H : Heap} {locs : List Loc} {cells slots : Nat} {Q : State → Prop}
variable {y : MethodName} {bytes cc : ByteArray} {maxL nL n index d : Nat} {ret : Option FieldType} {wz Ts : List Cond} {own C : String} {b : Addr} {As rest st0 : List Value} {G : va_G} {T : Nat → ClassId} {A A1 : Nat → Prop} {wc : va_W} {v : Int32} {pc : Nat} {ls : Array Slot} {w1 : va_W} {o : Int32 ⊕ String} {XC : String → State → State → Prop}
theorem e_rxi (hx : p.tables.exec = Jvm.exec) (hb : c.code = cc) (hr : meth.sig.returnType = some .int) (hlocks : meth.locks = false) (hS : va_S A s.heap H locs) (h : o = .inl v) (hP : va_P G vwCl w1 H) (hD : va_D A w1) (hdg : decode cc pc = .ok (.ireturn, 1)) (hc : cells ≤ 1 ∧ slots ≤ 6) : W p l e R s m args below meth c H locs cells slots (vx_MQ below (va_Qi (fun (r : Int32) (_ : Unit) => o = .inl r) (fun _ t => sP G A w1 t) A) XC args s 1 6 A) (F0 m pc ls [.int v]) :=
  W.widen hc.1 hc.2 (vx_ret (W.iret hx hb hr (fun t ht _ => ⟨⟨v, (), rfl, h, by rw [ht]; exact hP, hD⟩, hS.F ht⟩) hS.2.2 hdg hlocks))
theorem xt_Z {own cls text : String} {ik is ic : Nat} {names : List String} (hC : gC s) (hq : cls ∈ gExc) (h2 : ∀ w ∈ (vx_atS own ic cls names).filter (fun w => !goodWord w), w ∈ [Cond.castable cls cls, Cond.declares (Bundle.initS "java/lang/RuntimeException"), Cond.declares (Bundle.initS "java/lang/Exception"), Cond.declares (Bundle.initS Bundle.tN)]) (h1 : ∀ w ∈ (vx_atS own ic cls names).filter goodWord, w.before args s = true) : ∀ w ∈ vx_atS own ic cls names, w.before args s = true :=
  vx_hat h1 h2 (vx_c (va_Nw.use rfl (hC.1 cls hq)) (vx_c (va_Nw.use rfl (hC.2 "java/lang/RuntimeException" (by decide))) (vx_c (va_Nw.use rfl (hC.2 "java/lang/Exception" (by decide))) (vx_c (va_Nw.use rfl (hC.2 Bundle.tN (by decide))) vx_n))))
theorem e_thr (hexec : p.tables.exec = Jvm.exec) (hb : c.code = cc) (hl : l.stackTraces = false) {own cls : String} (text : String) (names : List String) {ik is ic : Nat}
    (hown : s.vm.findClass own = some m.cls) (hcls : Bundle.fit cls = true) (hnames : ∀ n ∈ names, Bundle.fit n = true)
    (hk : (Cond.classLink own ik cls).before args s = true) (hini : (Cond.initialized cls).before args s = true) (hstr : ∃ a : Nat, vk_R own is text a s) (hat : ∀ w ∈ vx_atS own ic cls names, w.before args s = true)
    (hgood : ∀ w ∈ Cond.classLink own ik cls :: Cond.initialized cls :: vx_atS own ic cls names, vx_ot w = true)
    (hE : gE A s s.heap) (hS : va_S A s.heap H locs) (hsize : ls.size = c.maxLocals)
    (d0 : decode cc pc = .ok (.new ik, 3)) (d3 : decode cc (pc + 3) = .ok (.dup, 1)) (d4 : decode cc (pc + 4) = .ok (.ldc is, 2)) (d6 : decode cc (pc + 6) = .ok (.invokespecial ic, 3)) (d9 : decode cc (pc + 9) = .ok (.athrow, 1))
    (hout : ∀ x ∈ c.exceptionTable.toList, False)
    (hR : names.length + 3 < R.frames ∧ (rest.map fun v => v.category).sum + (13 * (names.length + 1) + 43) ≤ R.locals ∧ cells + 1 ≤ R.cells ∧ slots + 6 ≤ R.slots) (hlocks : meth.locks = false) (hc : cells = 0 ∧ slots = 0)
    (ho : o = .inr cls) (hP : va_P G vwCl w1 H) (hD : va_D A w1) {Qc : Array Value → State → Outcome → State → Prop} :
    W p l e R s m args below meth c H locs cells slots (vx_MQ below Qc (vx_X (fun (_ : Unit) => True) (xB G A o w1) A) args s 1 6 A) (F0 m pc ls rest) := by
  obtain ⟨sa9, hs9⟩ := hstr
  refine vx_throwS (text := text) (names := names) (sa := sa9) hexec hb hl hown hcls hnames hk hini hs9 hat hgood hE.2.2.2.2.1 hE.2.2.2.2.2 hS hsize d0 d3 d4 d6 d9 (fun x hx => (hout x hx).elim) hR.1 hR.2.1 hR.2.2.1 hR.2.2.2 hlocks (fun t _ hz hq => ?_) hS.2.2 (by omega) (by omega)
  refine ⟨(), trivial, ⟨ho, ?_, hD⟩, ?_, ?_⟩
  · exact va_P.kept hP (fun k q hk => hq q.1 (vx_lt hP hk))
  · exact Nat.le_trans hS.1 hz
  · intro q h1 h2
    rw [hq q (Nat.lt_of_lt_of_le h1 hS.1)]
    exact hS.2.1 q h1 h2
theorem e_thrW (hexec : p.tables.exec = Jvm.exec) (hb : c.code = cc) (hl : l.stackTraces = false) {own cls : String} (text : String) (names : List String) {ik is ic : Nat}
    (hown : s.vm.findClass own = some m.cls) (hcls : Bundle.fit cls = true) (hnames : ∀ n ∈ names, Bundle.fit n = true)
    (hk : (Cond.classLink own ik cls).before args s = true) (hini : (Cond.initialized cls).before args s = true) (hstr : ∃ a : Nat, vk_R own is text a s) (hat : ∀ w ∈ vx_atS own ic cls names, w.before args s = true)
    (hgood : ∀ w ∈ Cond.classLink own ik cls :: Cond.initialized cls :: vx_atS own ic cls names, vx_ot w = true)
    (hE : gE A s s.heap) (hS : va_S A s.heap H locs) (hsize : ls.size = c.maxLocals)
    (d0 : decode cc pc = .ok (.new ik, 3)) (d3 : decode cc (pc + 3) = .ok (.dup, 1)) (d4 : decode cc (pc + 4) = .ok (.ldc_w is, 3)) (d6 : decode cc (pc + 7) = .ok (.invokespecial ic, 3)) (d9 : decode cc (pc + 10) = .ok (.athrow, 1))
    (hout : ∀ x ∈ c.exceptionTable.toList, False)
    (hR : names.length + 3 < R.frames ∧ (rest.map fun v => v.category).sum + (13 * (names.length + 1) + 43) ≤ R.locals ∧ cells + 1 ≤ R.cells ∧ slots + 6 ≤ R.slots) (hlocks : meth.locks = false) (hc : cells = 0 ∧ slots = 0)
    (ho : o = .inr cls) (hP : va_P G vwCl w1 H) (hD : va_D A w1) {Qc : Array Value → State → Outcome → State → Prop} :
    W p l e R s m args below meth c H locs cells slots (vx_MQ below Qc (vx_X (fun (_ : Unit) => True) (xB G A o w1) A) args s 1 6 A) (F0 m pc ls rest) := by
  obtain ⟨sa9, hs9⟩ := hstr
  refine vx_throwSW (text := text) (names := names) (sa := sa9) hexec hb hl hown hcls hnames hk hini hs9 hat hgood hE.2.2.2.2.1 hE.2.2.2.2.2 hS hsize d0 d3 d4 d6 d9 (fun x hx => (hout x hx).elim) hR.1 hR.2.1 hR.2.2.1 hR.2.2.2 hlocks (fun t _ hz hq => ?_) hS.2.2 (by omega) (by omega)
  refine ⟨(), trivial, ⟨ho, ?_, hD⟩, ?_, ?_⟩
  · exact va_P.kept hP (fun k q hk => hq q.1 (vx_lt hP hk))
  · exact Nat.le_trans hS.1 hz
  · intro q h1 h2
    rw [hq q (Nat.lt_of_lt_of_le h1 hS.1)]
    exact hS.2.1 q h1 h2
end KX
theorem pBt_T {k n : Nat} (h : k < n) (hn : n < 2 ^ 31) : pBt (nI k) n = true := by
  unfold pBt
  refine decide_eq_true ⟨nI_pos (by omega), fun q => ?_⟩
  have := (nI_leI hn (by omega)).mp q
  omega
theorem pBt_N {x : Int32} {n : Nat} (h : pBt x n = true) (hn : n < 2 ^ 31) : ∃ k : Nat, k < n ∧ x = nI k := by
  obtain ⟨h1, h2⟩ := of_decide_eq_true h
  have h3 : ¬ x.toInt < 0 := fun q => h1 (Int32.lt_iff_toInt_lt.mpr (by rw [Int32.toInt_zero]; exact q))
  have h4 : ¬ (nI n).toInt ≤ x.toInt := fun q => h2 (Int32.le_iff_toInt_le.mpr q)
  rw [nI_toInt hn] at h4
  refine ⟨x.toInt.toNat, by omega, Int32.toInt_inj.mp ?_⟩
  rw [nI_toInt (by omega)]
  omega
/-- an object of WhistleTunes: the addresses of its school, snapshot, history, text, grammar, tune, tree, outcome; whether there is a snapshot -/
abbrev oX7 (w q qz h t gr u tr oc : Nat → Nat) (S : Nat → Nat → Int32) : va_W := [(w 0, .inr (7, [.ref (q 0), .ref (qz 0), .ref (h 0), .ref (t 0), .ref (gr 0), .ref (u 0), .ref (tr 0), .ref (oc 0), .int (S 0 8)]))]
theorem pBt_O {x : Int32} {n : Nat} (h : pBt x n = false) (hn : n < 2 ^ 31) : x.toInt < ((0 : Nat) : Int) ∨ ((0 + n : Nat) : Int) ≤ x.toInt := by
  rcases Int.lt_or_le x.toInt 0 with h1 | h1
  · exact Or.inl h1
  · refine Or.inr ?_
    rcases Int.lt_or_le x.toInt (n : Int) with h2 | h2
    · exfalso
      have h3 : x = nI x.toInt.toNat := Int32.toInt_inj.mp (by rw [nI_toInt (by omega)]; omega)
      rw [h3, pBt_T (by omega) hn] at h
      cases h
    · omega
theorem pBt_X {x : Int32} {n : Nat} (h : pBt x n = false) (h1 : ¬ x < 0) (h2 : x < nI n) : False := by
  have h3 : ¬ nI n ≤ x := fun q => by
    have a := Int32.lt_iff_toInt_lt.mp h2
    have b := Int32.le_iff_toInt_le.mp q
    omega
  exact absurd (decide_eq_true (show ¬ x < 0 ∧ ¬ nI n ≤ x from ⟨h1, h3⟩)) (by rw [show decide (¬ x < 0 ∧ ¬ nI n ≤ x) = false from h]; decide)
theorem pBt_Y {x : Int32} {n : Nat} (h : pBt x n = false) (h1 : ¬ x < 0) (h2 : ¬ nI n ≤ x) : False :=
  absurd (decide_eq_true (show ¬ x < 0 ∧ ¬ nI n ≤ x from ⟨h1, h2⟩)) (by rw [show decide (¬ x < 0 ∧ ¬ nI n ≤ x) = false from h]; decide)
theorem i2c_n {c : Nat} (h : c < 65536) : i2c (nI c) = nI c := by
  have e : narrow .char (.int (nI c)) = .int (i2c (nI c)) := rfl
  have h2 := (pk_charN h).1
  rw [e] at h2
  exact Value.int.inj h2
