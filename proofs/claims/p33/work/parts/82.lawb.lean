/-! the law itself: its world, its words, its turn (printed by wip/p33/slaw.py) -/
theorem lg_self (x : Int64) : lg_cmp x x = 0 := by
  unfold lg_cmp
  rw [if_neg (fun q => Int64.lt_irrefl q), if_pos rfl]
abbrev lwR (T : Nat → ClassId) (aq at9 ar ab : Nat) (fq ft fr fb : Nat → Int32) : va_W := [(aq, .inl (T 0, 12, .inl fq)), (at9, .inl (T 0, 60, .inl ft)), (ar, .inl (T 0, 30, .inl fr)), (ab, .inl (T 0, 3, .inl fb))]
abbrev lwW (T : Nat → ClassId) (aq at9 ar ab : Nat) (fq ft fr fb : Nat → Int32) (a9 : CA) (c9 : CC) : va_W := lwR T aq at9 ar ab fq ft fr fb ++ oC T a9 c9
/-- what the law's frame has, all along -/
def lwE (l : Launch) (p : Program) (s : State) (m : MethodId) (c : Code) (b L : Nat) (xs : Nat → Int32) (G : va_G) (T : Nat → ClassId) (A : Nat → Prop) : Prop :=
  p.tables.exec = Jvm.exec ∧ c.code = cL_law ∧ c.maxLocals = 16 ∧ s.vm.findClass RL = some m.cls ∧ (∀ w ∈ wsLw, w.before #[Value.ref b] s = true) ∧ va_X b L xs s s.heap ∧ b < s.heap.size ∧ ¬ A b ∧ (∀ q : Nat, s.heap.size ≤ q → A q) ∧ l.stackTraces = false ∧ va_K G vwCl (tyL T) s ∧ gE A s s.heap ∧ gC s ∧ gNn s
theorem CX.fr {l : Launch} {y : MethodName} {wz : List Cond} {d : Nat} {G : va_G} {T : Nat → ClassId} {sz : Nat} {av : List Value} {W wc wr w1 W1 : va_W} {v : Int32} (hM : CX l y wz d G T sz wc av v w1) (h : Fr W wc wr w1 W1) : CX l y wz d G T sz W av v W1 := hM.elim (fun q => Or.inl (RWi.fr q h)) (fun q => Or.inr (RWx.fr q h))
section KCX
variable {p : Program} {l : Launch} {e : Env} {R : Room} {s : State} {m : MethodId} {args : Array Value} {below : List Frame} {meth : Method} {c : Code} {H : Heap} {locs : List Loc} {cells slots : Nat} {Q : State → Prop}
variable {y : MethodName} {bytes cc : ByteArray} {maxL nL n index d : Nat} {ret : Option FieldType} {wz Ts : List Cond} {own : String} {As rest st0 : List Value} {G : va_G} {T : Nat → ClassId} {A : Nat → Prop} {wc : va_W} {pc : Nat} {ls : Array Slot} {W0 wr w1 : va_W}
/-- a call that may have caught an exception, or not -/
theorem k_cxS {v : Int32} {isC isR : List Nat} (S : CallFix p m c cc nL s args Ts own) (hM : CX l y wz d G T H.size wc As v w1) (cw0 : CallB R s args own index y bytes maxL ret wz (rmD d 0 0) 0 0 n ∧ (Cond.static y).before args s = true) (cw1 : CallB R s args own index y bytes maxL ret wz (rmD d 1 6) 1 6 n ∧ (Cond.static y).before args s = true) (hN : kN G T A s H locs W0 wc wr isC isR) (hC9 : gC s) (hN9 : gNn s)
    (hn : As.length = n) (hsz : ls.size = nL) (hst : st0 = As.reverse ++ rest) (hW : (rest.map fun v => v.category).sum ≤ 8) (hdg : decode cc pc = .ok (.invokestatic index, 3)) (hf : cells + 1 ≤ R.cells ∧ slots + 6 ≤ R.slots)
    (kk : ∀ (H1 : Heap) (locs1 : List Loc), va_P G vwCl (wr ++ w1) H1 → va_D A (wr ++ w1) → va_S A s.heap H1 locs1 → H.size ≤ H1.size → W p l e R s m args below meth c H1 locs1 (cells + 1) (slots + 6) Q (F0 m (pc + 3) ls (.int v :: rest))) : W p l e R s m args below meth c H locs cells slots Q (F0 m pc ls st0) := by
  rcases hM with hM | hM
  · exact k_rwS S hM cw0 hN hn hsz hst hW hdg ⟨by omega, by omega⟩ (fun H1 locs1 a b c d => W.widen (by omega) (by omega) (kk H1 locs1 a b c d))
  · exact k_rxS S hM cw1 hN hC9 hN9 hn hsz hst hW hdg hf kk
end KCX
theorem lw_recv {s : State} {G : va_G} {T : Nat → ClassId} {aq at9 ar ab : Nat} {fq ft fr fb : Nat → Int32} {a9 : CA} {c9 : CC} {H : Heap} (hK : va_K G vwCl (tyL T) s) (hP : va_P G vwCl (lwW T aq at9 ar ab fq ft fr fb a9 c9) H) : ∃ cellB : Cell, H[a9.1 0]? = some cellB ∧ cellB.vm.isStatics = false ∧ s.vm.findClass RX7 = some cellB.cls := va_recv hK hP (ci := 7) (q0 := 4) rfl rfl
theorem st_types (l : Launch) (G : va_G) (T : Nat → ClassId) (a9 : CA) {B : Nat} (c9 : CC) {fq ft fr fb : Nat → Int32} {tn : Nat → Nat} (hJ : JX B c9 fq ft fr fb tn) (vv : Int32) :
    ∃ (c' : CC) (z : TyS), (∀ sz : Nat, RWi l yL_types wsL_types 5 0 0 G T sz (oC T a9 c9) [.ref (a9.1 0), .int vv] (nI z.2.2) (oC T a9 c')) ∧ JX B c' fq ft fr fb tn ∧ (∀ kd : Nat, TyO c'.2.2.2.2.2.1 kd z.2.2) ∧ z.2.2 < 167772160 := by
  obtain ⟨w, q, qz, h, qs, t, gr, u, tr, oc⟩ := a9
  obtain ⟨Sw, S, Z, Sh, Hs, X, Gg, U, K, O⟩ := c9
  obtain ⟨hM, hH, ⟨nx, hx1, hx2⟩⟩ := hJ
  obtain ⟨b1, b2, b3⟩ := tyE_b vv X
  obtain ⟨g1, g2⟩ := tyE_G vv X
  exact ⟨(Sw, S, Z, Sh, Hs, (tyE vv X).1, Gg, U, K, O), tyE vv X, fun sz => c_L_types l G T sz w q qz h qs t gr u tr oc Sw S Z Sh Hs X Gg U K O nx vv hx1 hx2, ⟨hM, hH, ⟨(tyE vv X).2.1, b3, by omega⟩⟩, fun kd _ => ⟨tyE vv X, rfl, b3, g1, g2, by omega, b2, rfl⟩, b2⟩
theorem st_clear (l : Launch) (G : va_G) (T : Nat → ClassId) (a9 : CA) {B : Nat} (c9 : CC) {fq ft fr fb : Nat → Int32} {tn : Nat → Nat} (hJ : JX B c9 fq ft fr fb tn) :
    ∃ (c' : CC) (n : Nat), (∀ sz : Nat, RWi l yX7_clearBuffer wsX7_clearBuffer 1 0 0 G T sz (oC T a9 c9) [.ref (a9.1 0)] (nI n) (oC T a9 c')) ∧ JX B c' fq ft fr fb tn ∧ c'.2.1 = c9.2.1 := by
  obtain ⟨w, q, qz, h, qs, t, gr, u, tr, oc⟩ := a9
  obtain ⟨Sw, S, Z, Sh, Hs, X, Gg, U, K, O⟩ := c9
  obtain ⟨hM, hH, ⟨nx, hx1, hx2⟩⟩ := hJ
  exact ⟨(Sw, S, Z, Sh, Hs, xCl X, Gg, U, K, O), nx, fun sz => w_X7_clearBuffer l G T sz w q qz h qs t gr u tr oc Sw S Z Sh Hs X Gg U K O nx hx1 hx2, ⟨hM, hH, ⟨0, rfl, by decide⟩⟩, rfl⟩
/-- what the law reads of its script -/
def lCell (xs : Nat → Int32) (L k : Nat) : Int32 := if k < L then xs k else (41981 : Int32) * nI (k + 5) + (2976543 : Int32)
theorem X_blind {b L : Nat} {xs : Nat → Int32} {av : List Value} : FrameBlind (va_Pc av (fun U => va_X b L xs U U.heap)) := by
  rintro a U g mk ⟨h0, h1⟩
  exact ⟨h0, va_X.moved (u := U) (U := U.calling g mk a) (Vm.Alike.refl U.vm) h1⟩
set_option maxHeartbeats 4000000 in
set_option maxRecDepth 100000 in
theorem c_L_cell (l : Launch) {b L : Nat} {xs : Nat → Int32} (hL : L ≤ 260) {k : Nat} (hk : k < 200) : Met l yL_cell wsL_cell (rmD 0 0 0) (va_Pc [.ref b, .int (nI k)] (fun U => va_X b L xs U U.heap)) (vp_Si (fun r => r = lCell xs L k)) 0 0 (fun _ => False) := by
  refine Met.ofW (cc := cL_cell) (maxL := 2) (ret := (some .int)) (by decide) rfl ?_
  intro p e s m args below meth c s₁ B hml hv
  obtain ⟨ha, hX⟩ := hv
  have hx := B.exec
  have hb := B.bytes
  have hr := B.returns
  have hlocks := B.notSynchronized
  have hts := atoms_spec (ws := wsL_cell) B.pre
  have hown : s.vm.findClass RL = some m.cls := findClass_of_methodNamed B.named
  have hbl : b < s.heap.size := by
    obtain ⟨scr, h1, -⟩ := hX
    exact (Array.getElem?_eq_some_iff.mp h1).1
  refine w_entry ha (Nat.le_of_ble_eq_true rfl) (fun ls hl => ?_)
  refine w_q (fun Q0 hQ => ?_)
  have hl : lv_has ls 2 [(0, .ref b), (1, .int (nI k))] := hl
  refine lv_iload_n hx hb dL_cell_0 rfl (lv_at hl 1 rfl) ?_
  refine lv_aload_n hx hb dL_cell_1 rfl (lv_at hl 0 rfl) ?_
  refine va_slen (A := fun _ => False) hx hb hX hbl (fun h => h) va_S.rf dL_cell_2 ?_
  refine n_icmp_ge (a := k) (b := L) (tgt := 12) hx hb (by omega) (by omega) dL_cell_3 (by decide) (fun h1 => ?_) (fun h1 => ?_)
  · refine lv_ldc (v := 41981) hx hb hown (hts (.constant RL 7 (41981)) (by decide +kernel)) dL_cell_12 ?_
    refine lv_iload_n hx hb dL_cell_14 rfl (lv_at hl 1 rfl) ?_
    refine n_iconst hx hb 5 dL_cell_15 (by decide) ?_
    refine n_iadd (a := k) (b := 5) hx hb dL_cell_16 ?_
    refine lv_imul hx hb dL_cell_17 ?_
    refine lv_ldc (v := 2976543) hx hb hown (hts (.constant RL 8 (2976543)) (by decide +kernel)) dL_cell_18 ?_
    refine lv_iadd hx hb dL_cell_20 ?_
    subst hQ
    exact e_ro hx hb hr hlocks (by unfold lCell; rw [if_neg (by omega)]) dL_cell_21
  · refine lv_aload_n hx hb dL_cell_6 rfl (lv_at hl 0 rfl) ?_
    refine lv_iload_n hx hb dL_cell_7 rfl (lv_at hl 1 rfl) ?_
    refine va_sld (A := fun _ => False) hx hb hX hbl (fun h => h) va_S.rf (vp_in_nI h1 (by omega)) dL_cell_8 ?_
    refine lv_goto (tgt := 21) hx hb dL_cell_9 (by decide) ?_
    subst hQ
    exact e_ro hx hb hr hlocks (by unfold lCell; rw [if_pos h1, nI_clamp (by omega)]) dL_cell_21
section KCELL
variable {p : Program} {l : Launch} {e : Env} {R : Room} {s : State} {m : MethodId} {args : Array Value} {below : List Frame} {meth : Method} {c : Code} {H : Heap} {locs : List Loc} {cells slots : Nat} {Q : State → Prop}
variable {bytes cc : ByteArray} {maxL nL n index b L : Nat} {xs : Nat → Int32} {A : Nat → Prop} {ret : Option FieldType} {Ts : List Cond} {own : String} {rest st0 : List Value} {pc : Nat} {ls : Array Slot}
theorem k_cell (S : CallFix p m c cc nL s args Ts own) (hL : L ≤ 260) {k : Nat} (hk : k < 200) (cw : CallB R s args own index yL_cell bytes maxL ret wsL_cell (rmD 0 0 0) 0 0 2 ∧ (Cond.static yL_cell).before args s = true) (hX : va_X b L xs s s.heap) (hbl : b < s.heap.size) (hbA : ¬ A b) (hS : va_S A s.heap H locs)
    (hsz : ls.size = nL) (hst : st0 = [Value.ref b, .int (nI k)].reverse ++ rest) (hW : (rest.map fun v => v.category).sum ≤ 8) (hdg : decode cc pc = .ok (.invokestatic index, 3)) (hf : cells + 0 ≤ R.cells ∧ slots + 0 ≤ R.slots)
    (kk : W p l e R s m args below meth c H locs cells slots Q (F0 m (pc + 3) ls (.int (lCell xs L k) :: rest))) : W p l e R s m args below meth c H locs cells slots Q (F0 m pc ls st0) :=
  vp_callSi (W.runS S (c_L_cell l hL hk) cw ⟨X_blind, fun U hU hW1 => ⟨rfl, show va_X b L xs U U.heap from by rw [hU]; exact (hX.kept (hS.2.1 b hbl hbA)).moved hW1.alike⟩⟩ rfl rfl hsz hst (lv_room hW) hdg hf) (fun r hr => by rw [hr]; exact kk)
end KCELL

