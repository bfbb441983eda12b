/-! constructors: their contracts (printed by wip/p33/gcon.py) -/
def RWn {S : Type} (l : Launch) (y : MethodName) (wz : List Cond) (d mc ms : Nat) (G : va_G) (T : Nat → ClassId) (sz : Nat) (ws : va_W) (av : List Value) (post : S → Prop) (w1 : S → va_W) : Prop := Met l y wz (rmD d mc ms) (va_Pc av (fun U => sR G T sz ws U ∧ va_AO RX3 U)) (va_Qv post (fun u t => sP G (va_A ws sz) (w1 u) t) (va_A ws sz)) mc ms (va_A ws sz)
theorem sRn_blind {G : va_G} {T : Nat → ClassId} {sz : Nat} {ws : va_W} {av : List Value} : FrameBlind (va_Pc av (fun U => sR G T sz ws U ∧ va_AO RX3 U)) := by
  rintro a U g mk ⟨h0, h1, h2⟩
  exact ⟨h0, (sR_blind (av := av) a U g mk ⟨h0, h1⟩).2, va_AO.moved (u := U) (U := U.calling g mk a) (Vm.Alike.refl U.vm) h2⟩
section KRN
variable {p : Program} {l : Launch} {e : Env} {R : Room} {s : State} {m : MethodId} {args : Array Value} {below : List Frame} {meth : Method} {c : Code} {H : Heap} {locs : List Loc} {cells slots : Nat} {Q : State → Prop}
variable {y : MethodName} {bytes cc : ByteArray} {maxL nL index d mc ms : Nat} {wz Ts : List Cond} {own : String} {b : Addr} {rest st0 : List Value} {G : va_G} {T : Nat → ClassId} {A : Nat → Prop} {pc : Nat} {ls : Array Slot} {Wr : va_W} {e0 : va_E}
theorem k_rn_pre (hP : va_P G vwCl (Wr ++ [(b, e0)]) H) (hD : va_D A (Wr ++ [(b, e0)])) (hS : va_S A s.heap H locs) (hA : ∀ q, s.heap.size ≤ q → A q) (hE : gE A s s.heap) (hK : va_K G vwCl (tyL T) s) : kN G T A s H locs (Wr ++ [(b, e0)]) [(b, e0)] Wr ((List.range 1).map (fun i => Wr.length + i)) (List.range Wr.length) := by
  refine ⟨hP, hD, hS, hA, hE, hK, rg_b Wr [(b, e0)], nd_b _ _, rg_a Wr _, nd_a _, fun i hi hj => ?_⟩
  obtain ⟨k, hk, rfl⟩ := List.mem_map.mp hj
  have := List.mem_range.mp hi
  omega
theorem k_rnN {S : Type} {post : S → Prop} {w1 : S → va_W} {host : String} (C0 : CallFix p m c cc nL s args Ts own) (hM : RWn l y wz d mc ms G T H.size [(b, e0)] [.ref b] post w1) (cw : va_CN R s args own index y host bytes maxL none wz (rmD d mc ms) mc ms 0 ∧ y.name = "<init>" ∧ (Cond.instanceMethod y).before args s = true)
    (hP : va_P G vwCl (Wr ++ [(b, e0)]) H) (hD : va_D A (Wr ++ [(b, e0)])) (hS : va_S A s.heap H locs) (hA : ∀ q, s.heap.size ≤ q → A q) (hE : gE A s s.heap) (hK : va_K G vwCl (tyL T) s) (hO : va_AO RX3 s)
    (hsz : ls.size = nL) (hst : st0 = .ref b :: rest) (hW : (rest.map fun v => v.category).sum ≤ 8) (hdg : decode cc pc = .ok (.invokespecial index, 3)) (hf : cells + mc ≤ R.cells ∧ slots + ms ≤ R.slots)
    (kk : ∀ (u : S) (H1 : Heap) (locs1 : List Loc), post u → va_P G vwCl (Wr ++ w1 u) H1 → va_D A (Wr ++ w1 u) → va_S A s.heap H1 locs1 → W p l e R s m args below meth c H1 locs1 (cells + mc) (slots + ms) Q (F0 m (pc + 3) ls rest)) : W p l e R s m args below meth c H locs cells slots Q (F0 m pc ls st0) := by
  have hN := k_rn_pre hP hD hS hA hE hK
  have hpre := hN.pre
  obtain ⟨hP, hD, hS, hA, hE, hK, hC, hnC, hR, hnR, hdis⟩ := hN
  have hF := va_free hD hS hA _ hC
  refine va_callv (va_runIN (As := []) (rest := rest) C0 hM cw ⟨sRn_blind, fun U hU hW1 => ⟨rfl, hpre U hU hW1, va_AO.moved hW1.alike hO⟩⟩ rfl rfl hsz hst (lv_room hW) hdg hf) hS (fun q _ h => hF q h) hF (fun u t H1 locs1 ht hvm hw hB hz hk hS1 => ?_)
  obtain ⟨hP1, hD1⟩ := hB
  rw [ht] at hP1
  obtain ⟨hP2, hD2⟩ := va_join hP hD _ _ hC hR hnR hdis hk hF hP1 hD1
  exact kk u H1 locs1 hw hP2 hD2 hS1
theorem k_rnI {S : Type} {post : S → Prop} {w1 : S → va_W} (C0 : CallFix p m c cc nL s args Ts own) (hM : RWn l y wz d mc ms G T H.size [(b, e0)] [.ref b] post w1) (cw : CallB R s args own index y bytes maxL none wz (rmD d mc ms) mc ms 0 ∧ y.name = "<init>" ∧ (Cond.instanceMethod y).before args s = true)
    (hP : va_P G vwCl (Wr ++ [(b, e0)]) H) (hD : va_D A (Wr ++ [(b, e0)])) (hS : va_S A s.heap H locs) (hA : ∀ q, s.heap.size ≤ q → A q) (hE : gE A s s.heap) (hK : va_K G vwCl (tyL T) s) (hO : va_AO RX3 s)
    (hsz : ls.size = nL) (hst : st0 = .ref b :: rest) (hW : (rest.map fun v => v.category).sum ≤ 8) (hdg : decode cc pc = .ok (.invokespecial index, 3)) (hf : cells + mc ≤ R.cells ∧ slots + ms ≤ R.slots)
    (kk : ∀ (u : S) (H1 : Heap) (locs1 : List Loc), post u → va_P G vwCl (Wr ++ w1 u) H1 → va_D A (Wr ++ w1 u) → va_S A s.heap H1 locs1 → W p l e R s m args below meth c H1 locs1 (cells + mc) (slots + ms) Q (F0 m (pc + 3) ls rest)) : W p l e R s m args below meth c H locs cells slots Q (F0 m pc ls st0) := by
  have hN := k_rn_pre hP hD hS hA hE hK
  have hpre := hN.pre
  obtain ⟨hP, hD, hS, hA, hE, hK, hC, hnC, hR, hnR, hdis⟩ := hN
  have hF := va_free hD hS hA _ hC
  refine va_callv (va_runI (As := []) (rest := rest) C0 hM cw ⟨sRn_blind, fun U hU hW1 => ⟨rfl, hpre U hU hW1, va_AO.moved hW1.alike hO⟩⟩ rfl rfl hsz hst (lv_room hW) hdg hf) hS (fun q _ h => hF q h) hF (fun u t H1 locs1 ht hvm hw hB hz hk hS1 => ?_)
  obtain ⟨hP1, hD1⟩ := hB
  rw [ht] at hP1
  obtain ⟨hP2, hD2⟩ := va_join hP hD _ _ hC hR hnR hdis hk hF hP1 hD1
  exact kk u H1 locs1 hw hP2 hD2 hS1
end KRN
theorem cA_ra {s : State} {ty : FieldType} {a b : ClassId} (h1 : va_RA s a ty) (h2 : va_RA s b ty) : a = b := by
  cases ty with
  | object C =>
    obtain ⟨k1, c1, a1, a2, a3, a4⟩ := h1
    obtain ⟨k2, c2, b1, b2, b3, b4⟩ := h2
    exact Option.some.inj (a4.symm.trans b4)
  | _ => exact Option.some.inj ((show s.vm.findClass _ = some a from h1).symm.trans (show s.vm.findClass _ = some b from h2))
section KNA
variable {p : Program} {l : Launch} {e : Env} {R : Room} {s : State} {m : MethodId} {args : Array Value} {below : List Frame} {meth : Method} {c : Code} {H : Heap} {locs : List Loc} {cells slots : Nat} {Q : State → Prop}
variable {cc : ByteArray} {pc : Nat} {ls : Array Slot} {rest : List Value} {G : va_G} {T : Nat → ClassId} {A : Nat → Prop} {ws : va_W} {H0 : Heap}
theorem n_newa (hexec : p.tables.exec = Jvm.exec) (hb : c.code = cc) {atype : ArrayType} (harr : (Cond.arrayClass (newarray.typeOf atype)).before args s = true) {ty : FieldType} (hty : newarray.typeOf atype = ty) (j : Nat) (hj : (tyL T)[j]? = some (T j, ty)) (hK : va_K G vwCl (tyL T) s) (hP : va_P G vwCl ws H) (hD : va_D A ws) (hS : va_S A H0 H locs) (hA : ∀ q, H0.size ≤ q → A q)
    (n : Nat) {a0 : vp_A} (ha : ∀ cA : ClassId, vp_cell cA a0 = arrV cA n (fun _ => defaultValue ty)) (hn : n < 2 ^ 31) (hbytes : n * componentBytes ty ≤ 536870912) (hcells : cells + 1 ≤ R.cells) (hslots : slots + n ≤ R.slots) (hdg : decode cc pc = .ok (.newarray atype, 2))
    (kk : ∀ (q : Nat) (H1 : Heap), va_P G vwCl (ws ++ [(q, .inl (T j, a0))]) H1 → va_D A (ws ++ [(q, .inl (T j, a0))]) → va_S A H0 H1 locs →
      W p l e R s m args below meth c H1 locs (cells + 1) (slots + n) Q (F0 m (pc + 2) ls (.ref q :: rest))) : W p l e R s m args below meth c H locs cells slots Q (F0 m pc ls (.int (nI n) :: rest)) := by
  refine va_newa hexec hb harr hty hK hP hD hS hA ha (nI_pos hn) (nI_clamp hn) hbytes hcells hslots hdg (fun q cA H1 hK1 hP1 hD1 hS1 => ?_)
  have h1 := (hK.2 j _ hj).2
  have h2 := (hK1.2 3 (cA, ty) rfl).2
  obtain rfl : cA = T j := cA_ra h2 h1
  exact kk q H1 hP1 hD1 hS1
theorem n_newq (hexec : p.tables.exec = Jvm.exec) (hb : c.code = cc) {own : String} {index : Nat} (hown : s.vm.findClass own = some m.cls) (hclink : (Cond.classLink own index RX3).before args s = true) (hover : va_AO RX3 s) (hK : va_K G vwCl (tyL T) s) (hP : va_P G vwCl ws H) (hD : va_D A ws) (hS : va_S A H0 H locs) (hA : ∀ q, H0.size ≤ q → A q)
    (n : Nat) (hn : n < 2 ^ 31) (hbytes : n * 4 ≤ 536870912) (hcells : cells + 1 ≤ R.cells) (hslots : slots + n ≤ R.slots) (hdg : decode cc pc = .ok (.anewarray index, 3))
    (kk : ∀ (q : Nat) (H1 : Heap), va_P G vwCl (ws ++ [(q, .inl (T 2, n, .inr (.inr (.inr (.inr (fun _ => none))))))]) H1 → va_D A (ws ++ [(q, .inl (T 2, n, .inr (.inr (.inr (.inr (fun _ => none))))))]) → va_S A H0 H1 locs →
      W p l e R s m args below meth c H1 locs (cells + 1) (slots + n) Q (F0 m (pc + 3) ls (.ref q :: rest))) : W p l e R s m args below meth c H locs cells slots Q (F0 m pc ls (.int (nI n) :: rest)) := by
  refine va_newq hexec hb hown hclink hover hK hP hD hS hA (nI_pos hn) (nI_clamp hn) hbytes hcells hslots hdg (fun q cA H1 hK1 hP1 hD1 hS1 => ?_)
  have h1 := (hK.2 2 (T 2, .object RX3) rfl).2
  have h2 := (hK1.2 3 (cA, .object RX3) rfl).2
  obtain rfl : cA = T 2 := cA_ra h2 h1
  exact kk q H1 hP1 hD1 hS1
end KNA

def iZX3 : Nat → Nat → Int32 | 5 => (upd (upd (fun _ => 0) 0 (nI 1)) 1 (nI 3)) | 15 => (upd (upd (upd (upd (upd (upd (fun _ => 0) 0 (-1)) 1 (-1)) 2 (-1)) 3 (-1)) 4 (-1)) 5 (-1)) | 16 => (upd (upd (fun _ => 0) 0 (-1)) 1 (-1)) | _ => fun _ => 0
set_option maxHeartbeats 8000000 in
set_option maxRecDepth 100000 in
theorem c_X3_init (l : Launch) (G : va_G) (T : Nat → ClassId) (sz b : Nat) : RWn l yX3_init wsX3_init 1 12 274 G T sz [(b, .inr (3, [.int 0, .int 0, .int 0, .int 0, .null, .null, .null, .null, .null, .null, .null, .null, .null, .null, .null, .null]))] [.ref b] (fun u : Nat → Nat => u 0 = b) (fun u => oX3 T u iZX3) := by
  refine Met.ofW (cc := cX3_init) (maxL := 1) (ret := none) (by decide) rfl ?_
  intro p e s m args below meth c s₁ B hml hv
  obtain ⟨ha, ⟨hsz, hP, hK, hD0, hE0⟩, hO⟩ := hv
  have hx := B.exec
  have hb := B.bytes
  have hr := B.returns
  have hlocks := B.notSynchronized
  have hin2 : meth.name = "<init>" := (name_of_methodNamed B.named B.method).1
  have hts := atoms_spec (ws := wsX3_init) B.pre
  have hown : s.vm.findClass RX3 = some m.cls := findClass_of_methodNamed B.named
  have cx : CallFix p m c cX3_init 1 s args wsX3_init RX3 := ⟨hx, hb, hml, hown, hts⟩
  subst hsz
  have hD := hD0.self (sz := s.heap.size)
  generalize hAe : va_A [(b, .inr (3, [.int 0, .int 0, .int 0, .int 0, .null, .null, .null, .null, .null, .null, .null, .null, .null, .null, .null, .null]))] s.heap.size = A at hD hE0 ⊢
  have hE : gE A s s.heap := hE0
  have hA : ∀ q : Nat, s.heap.size ≤ q → A q := fun q h => by rw [← hAe]; exact Or.inr h
  have hS : va_S A s.heap s.heap [] := va_S.rf
  have hinX3 : ∀ w ∈ wsX30, w ∈ wsX3_init := by decide +kernel
  refine w_entry ha (Nat.le_of_ble_eq_true rfl) (fun ls hl => ?_)
  refine w_q (fun Q0 hQ => ?_)
  have hl : lv_has ls 1 [(0, .ref b)] := hl
  refine w_h (fun H locs hHe hLe => ?_)
  have hP : va_P G vwCl [(b, .inr (3, [.int 0, .int 0, .int 0, .int 0, .null, .null, .null, .null, .null, .null, .null, .null, .null, .null, .null, .null]))] H := by rw [hHe]; exact hP
  have hS : va_S A s.heap H locs := by rw [hHe, hLe]; exact hS
  refine lv_aload_n hx hb dX3_init_0 rfl (lv_at hl 0 rfl) ?_
  refine W.objInit hx hb hown (hts (.methodLink RX3 3 objectInit) (by decide +kernel)) (hts (.instanceMethod objectInit) (by decide +kernel)) (hts _ (List.mem_of_getElem? (i := 3) rfl)) rfl (by rw [hml]; exact hl.1) rfl dX3_init_1 (Nat.le_of_ble_eq_true rfl) (Nat.le_of_ble_eq_true rfl) ?_
  refine W.eq (g2 := F0 m 4 ls []) rfl ?_
  refine lv_aload_n hx hb dX3_init_4 rfl (lv_at hl 0 rfl) ?_
  refine n_iconst hx hb 2 dX3_init_5 (by decide) ?_
  refine n_newa (atype := .int) (ty := .int) hx hb (hts (.arrayClass .int) (by decide +kernel)) rfl 0 rfl hK hP hD hS hA 2 (a0 := (2, .inl (fun _ => 0))) (fun _ => rfl) (by decide) (Nat.le_of_ble_eq_true rfl) (Nat.le_of_ble_eq_true rfl) (Nat.le_of_ble_eq_true rfl) dX3_init_6 (fun q6 H hP hD hS => ?_)
  have hP : va_P G vwCl ([(b, .inr (3, [.int 0, .int 0, .int 0, .int 0, .null, .null, .null, .null, .null, .null, .null, .null, .null, .null, .null, .null])), (q6, .inl (T 0, 2, .inl (fun _ => 0)))]) H := hP
  have hD : va_D A ([(b, .inr (3, [.int 0, .int 0, .int 0, .int 0, .null, .null, .null, .null, .null, .null, .null, .null, .null, .null, .null, .null])), (q6, .inl (T 0, 2, .inl (fun _ => 0)))]) := hD
  refine lv_dup hx hb dX3_init_8 rfl ?_
  refine n_iconst hx hb 0 dX3_init_9 (by decide) ?_
  refine n_iconst hx hb 1 dX3_init_10 (by decide) ?_
  refine n_iast hx hb hK hP hD hS 1 0 rfl rfl 0 (by decide) (by decide) dX3_init_11 (fun H locs hP hD hS => ?_)
  have hP : va_P G vwCl ([(b, .inr (3, [.int 0, .int 0, .int 0, .int 0, .null, .null, .null, .null, .null, .null, .null, .null, .null, .null, .null, .null])), (q6, .inl (T 0, 2, .inl (upd (fun _ => 0) 0 (nI 1))))]) H := hP
  have hD : va_D A ([(b, .inr (3, [.int 0, .int 0, .int 0, .int 0, .null, .null, .null, .null, .null, .null, .null, .null, .null, .null, .null, .null])), (q6, .inl (T 0, 2, .inl (upd (fun _ => 0) 0 (nI 1))))]) := hD
  refine lv_dup hx hb dX3_init_12 rfl ?_
  refine n_iconst hx hb 1 dX3_init_13 (by decide) ?_
  refine n_iconst hx hb 3 dX3_init_14 (by decide) ?_
  refine n_iast hx hb hK hP hD hS 1 0 rfl rfl 1 (by decide) (by decide) dX3_init_15 (fun H locs hP hD hS => ?_)
  have hP : va_P G vwCl ([(b, .inr (3, [.int 0, .int 0, .int 0, .int 0, .null, .null, .null, .null, .null, .null, .null, .null, .null, .null, .null, .null])), (q6, .inl (T 0, 2, .inl (upd (upd (fun _ => 0) 0 (nI 1)) 1 (nI 3))))]) H := hP
  have hD : va_D A ([(b, .inr (3, [.int 0, .int 0, .int 0, .int 0, .null, .null, .null, .null, .null, .null, .null, .null, .null, .null, .null, .null])), (q6, .inl (T 0, 2, .inl (upd (upd (fun _ => 0) 0 (nI 1)) 1 (nI 3))))]) := hD
  refine va_putF (D := G) (ci := 3) (v := .ref q6) (ty := .array .int) (C := RX3) (T := TX3) (N := 16) hx hb hts hinX3 tyX3 tyX3_ok nmX3 hown hK hP hD hS 0 rfl rfl 4 (by decide) (hts (.fieldLink RX3 9 "WhistleTunes$School" "settings" "[I") (by decide +kernel)) (fun _ h9 => h9) rfl hin2 rfl (by decide +kernel) rfl rfl (Nat.le_of_ble_eq_true rfl) dX3_init_16 (fun H locs hP hD hS => ?_)
  have hP : va_P G vwCl ([(b, .inr (3, [.int 0, .int 0, .int 0, .int 0, .ref q6, .null, .null, .null, .null, .null, .null, .null, .null, .null, .null, .null])), (q6, .inl (T 0, 2, .inl (upd (upd (fun _ => 0) 0 (nI 1)) 1 (nI 3))))]) H := hP
  have hD : va_D A ([(b, .inr (3, [.int 0, .int 0, .int 0, .int 0, .ref q6, .null, .null, .null, .null, .null, .null, .null, .null, .null, .null, .null])), (q6, .inl (T 0, 2, .inl (upd (upd (fun _ => 0) 0 (nI 1)) 1 (nI 3))))]) := hD
  refine lv_aload_n hx hb dX3_init_19 rfl (lv_at hl 0 rfl) ?_
  refine lv_bipush (v := nI 20) hx hb dX3_init_20 (by decide) ?_
  refine n_newa (atype := .int) (ty := .int) hx hb (hts (.arrayClass .int) (by decide +kernel)) rfl 0 rfl hK hP hD hS hA 20 (a0 := (20, .inl (fun _ => 0))) (fun _ => rfl) (by decide) (Nat.le_of_ble_eq_true rfl) (Nat.le_of_ble_eq_true rfl) (Nat.le_of_ble_eq_true rfl) dX3_init_22 (fun q22 H hP hD hS => ?_)
  have hP : va_P G vwCl ([(b, .inr (3, [.int 0, .int 0, .int 0, .int 0, .ref q6, .null, .null, .null, .null, .null, .null, .null, .null, .null, .null, .null])), (q6, .inl (T 0, 2, .inl (upd (upd (fun _ => 0) 0 (nI 1)) 1 (nI 3)))), (q22, .inl (T 0, 20, .inl (fun _ => 0)))]) H := hP
  have hD : va_D A ([(b, .inr (3, [.int 0, .int 0, .int 0, .int 0, .ref q6, .null, .null, .null, .null, .null, .null, .null, .null, .null, .null, .null])), (q6, .inl (T 0, 2, .inl (upd (upd (fun _ => 0) 0 (nI 1)) 1 (nI 3)))), (q22, .inl (T 0, 20, .inl (fun _ => 0)))]) := hD
  refine va_putF (D := G) (ci := 3) (v := .ref q22) (ty := .array .int) (C := RX3) (T := TX3) (N := 16) hx hb hts hinX3 tyX3 tyX3_ok nmX3 hown hK hP hD hS 0 rfl rfl 5 (by decide) (hts (.fieldLink RX3 15 "WhistleTunes$School" "tuneLengths" "[I") (by decide +kernel)) (fun _ h9 => h9) rfl hin2 rfl (by decide +kernel) rfl rfl (Nat.le_of_ble_eq_true rfl) dX3_init_24 (fun H locs hP hD hS => ?_)
  have hP : va_P G vwCl ([(b, .inr (3, [.int 0, .int 0, .int 0, .int 0, .ref q6, .ref q22, .null, .null, .null, .null, .null, .null, .null, .null, .null, .null])), (q6, .inl (T 0, 2, .inl (upd (upd (fun _ => 0) 0 (nI 1)) 1 (nI 3)))), (q22, .inl (T 0, 20, .inl (fun _ => 0)))]) H := hP
  have hD : va_D A ([(b, .inr (3, [.int 0, .int 0, .int 0, .int 0, .ref q6, .ref q22, .null, .null, .null, .null, .null, .null, .null, .null, .null, .null])), (q6, .inl (T 0, 2, .inl (upd (upd (fun _ => 0) 0 (nI 1)) 1 (nI 3)))), (q22, .inl (T 0, 20, .inl (fun _ => 0)))]) := hD
  refine lv_aload_n hx hb dX3_init_27 rfl (lv_at hl 0 rfl) ?_
  refine lv_sipush (v := nI 160) hx hb dX3_init_28 (by decide) ?_
  refine n_newa (atype := .int) (ty := .int) hx hb (hts (.arrayClass .int) (by decide +kernel)) rfl 0 rfl hK hP hD hS hA 160 (a0 := (160, .inl (fun _ => 0))) (fun _ => rfl) (by decide) (Nat.le_of_ble_eq_true rfl) (Nat.le_of_ble_eq_true rfl) (Nat.le_of_ble_eq_true rfl) dX3_init_31 (fun q31 H hP hD hS => ?_)
  have hP : va_P G vwCl ([(b, .inr (3, [.int 0, .int 0, .int 0, .int 0, .ref q6, .ref q22, .null, .null, .null, .null, .null, .null, .null, .null, .null, .null])), (q6, .inl (T 0, 2, .inl (upd (upd (fun _ => 0) 0 (nI 1)) 1 (nI 3)))), (q22, .inl (T 0, 20, .inl (fun _ => 0))), (q31, .inl (T 0, 160, .inl (fun _ => 0)))]) H := hP
  have hD : va_D A ([(b, .inr (3, [.int 0, .int 0, .int 0, .int 0, .ref q6, .ref q22, .null, .null, .null, .null, .null, .null, .null, .null, .null, .null])), (q6, .inl (T 0, 2, .inl (upd (upd (fun _ => 0) 0 (nI 1)) 1 (nI 3)))), (q22, .inl (T 0, 20, .inl (fun _ => 0))), (q31, .inl (T 0, 160, .inl (fun _ => 0)))]) := hD
  refine va_putF (D := G) (ci := 3) (v := .ref q31) (ty := .array .int) (C := RX3) (T := TX3) (N := 16) hx hb hts hinX3 tyX3 tyX3_ok nmX3 hown hK hP hD hS 0 rfl rfl 6 (by decide) (hts (.fieldLink RX3 18 "WhistleTunes$School" "tuneNotes" "[I") (by decide +kernel)) (fun _ h9 => h9) rfl hin2 rfl (by decide +kernel) rfl rfl (Nat.le_of_ble_eq_true rfl) dX3_init_33 (fun H locs hP hD hS => ?_)
  have hP : va_P G vwCl ([(b, .inr (3, [.int 0, .int 0, .int 0, .int 0, .ref q6, .ref q22, .ref q31, .null, .null, .null, .null, .null, .null, .null, .null, .null])), (q6, .inl (T 0, 2, .inl (upd (upd (fun _ => 0) 0 (nI 1)) 1 (nI 3)))), (q22, .inl (T 0, 20, .inl (fun _ => 0))), (q31, .inl (T 0, 160, .inl (fun _ => 0)))]) H := hP
  have hD : va_D A ([(b, .inr (3, [.int 0, .int 0, .int 0, .int 0, .ref q6, .ref q22, .ref q31, .null, .null, .null, .null, .null, .null, .null, .null, .null])), (q6, .inl (T 0, 2, .inl (upd (upd (fun _ => 0) 0 (nI 1)) 1 (nI 3)))), (q22, .inl (T 0, 20, .inl (fun _ => 0))), (q31, .inl (T 0, 160, .inl (fun _ => 0)))]) := hD
  refine lv_aload_n hx hb dX3_init_36 rfl (lv_at hl 0 rfl) ?_
  refine lv_bipush (v := nI 20) hx hb dX3_init_37 (by decide) ?_
  refine n_newa (atype := .int) (ty := .int) hx hb (hts (.arrayClass .int) (by decide +kernel)) rfl 0 rfl hK hP hD hS hA 20 (a0 := (20, .inl (fun _ => 0))) (fun _ => rfl) (by decide) (Nat.le_of_ble_eq_true rfl) (Nat.le_of_ble_eq_true rfl) (Nat.le_of_ble_eq_true rfl) dX3_init_39 (fun q39 H hP hD hS => ?_)
  have hP : va_P G vwCl ([(b, .inr (3, [.int 0, .int 0, .int 0, .int 0, .ref q6, .ref q22, .ref q31, .null, .null, .null, .null, .null, .null, .null, .null, .null])), (q6, .inl (T 0, 2, .inl (upd (upd (fun _ => 0) 0 (nI 1)) 1 (nI 3)))), (q22, .inl (T 0, 20, .inl (fun _ => 0))), (q31, .inl (T 0, 160, .inl (fun _ => 0))), (q39, .inl (T 0, 20, .inl (fun _ => 0)))]) H := hP
  have hD : va_D A ([(b, .inr (3, [.int 0, .int 0, .int 0, .int 0, .ref q6, .ref q22, .ref q31, .null, .null, .null, .null, .null, .null, .null, .null, .null])), (q6, .inl (T 0, 2, .inl (upd (upd (fun _ => 0) 0 (nI 1)) 1 (nI 3)))), (q22, .inl (T 0, 20, .inl (fun _ => 0))), (q31, .inl (T 0, 160, .inl (fun _ => 0))), (q39, .inl (T 0, 20, .inl (fun _ => 0)))]) := hD
  refine va_putF (D := G) (ci := 3) (v := .ref q39) (ty := .array .int) (C := RX3) (T := TX3) (N := 16) hx hb hts hinX3 tyX3 tyX3_ok nmX3 hown hK hP hD hS 0 rfl rfl 7 (by decide) (hts (.fieldLink RX3 21 "WhistleTunes$School" "forbidders" "[I") (by decide +kernel)) (fun _ h9 => h9) rfl hin2 rfl (by decide +kernel) rfl rfl (Nat.le_of_ble_eq_true rfl) dX3_init_41 (fun H locs hP hD hS => ?_)
  have hP : va_P G vwCl ([(b, .inr (3, [.int 0, .int 0, .int 0, .int 0, .ref q6, .ref q22, .ref q31, .ref q39, .null, .null, .null, .null, .null, .null, .null, .null])), (q6, .inl (T 0, 2, .inl (upd (upd (fun _ => 0) 0 (nI 1)) 1 (nI 3)))), (q22, .inl (T 0, 20, .inl (fun _ => 0))), (q31, .inl (T 0, 160, .inl (fun _ => 0))), (q39, .inl (T 0, 20, .inl (fun _ => 0)))]) H := hP
  have hD : va_D A ([(b, .inr (3, [.int 0, .int 0, .int 0, .int 0, .ref q6, .ref q22, .ref q31, .ref q39, .null, .null, .null, .null, .null, .null, .null, .null])), (q6, .inl (T 0, 2, .inl (upd (upd (fun _ => 0) 0 (nI 1)) 1 (nI 3)))), (q22, .inl (T 0, 20, .inl (fun _ => 0))), (q31, .inl (T 0, 160, .inl (fun _ => 0))), (q39, .inl (T 0, 20, .inl (fun _ => 0)))]) := hD
  refine lv_aload_n hx hb dX3_init_44 rfl (lv_at hl 0 rfl) ?_
  refine lv_bipush (v := nI 20) hx hb dX3_init_45 (by decide) ?_
  refine n_newa (atype := .int) (ty := .int) hx hb (hts (.arrayClass .int) (by decide +kernel)) rfl 0 rfl hK hP hD hS hA 20 (a0 := (20, .inl (fun _ => 0))) (fun _ => rfl) (by decide) (Nat.le_of_ble_eq_true rfl) (Nat.le_of_ble_eq_true rfl) (Nat.le_of_ble_eq_true rfl) dX3_init_47 (fun q47 H hP hD hS => ?_)
  have hP : va_P G vwCl ([(b, .inr (3, [.int 0, .int 0, .int 0, .int 0, .ref q6, .ref q22, .ref q31, .ref q39, .null, .null, .null, .null, .null, .null, .null, .null])), (q6, .inl (T 0, 2, .inl (upd (upd (fun _ => 0) 0 (nI 1)) 1 (nI 3)))), (q22, .inl (T 0, 20, .inl (fun _ => 0))), (q31, .inl (T 0, 160, .inl (fun _ => 0))), (q39, .inl (T 0, 20, .inl (fun _ => 0))), (q47, .inl (T 0, 20, .inl (fun _ => 0)))]) H := hP
  have hD : va_D A ([(b, .inr (3, [.int 0, .int 0, .int 0, .int 0, .ref q6, .ref q22, .ref q31, .ref q39, .null, .null, .null, .null, .null, .null, .null, .null])), (q6, .inl (T 0, 2, .inl (upd (upd (fun _ => 0) 0 (nI 1)) 1 (nI 3)))), (q22, .inl (T 0, 20, .inl (fun _ => 0))), (q31, .inl (T 0, 160, .inl (fun _ => 0))), (q39, .inl (T 0, 20, .inl (fun _ => 0))), (q47, .inl (T 0, 20, .inl (fun _ => 0)))]) := hD
  refine va_putF (D := G) (ci := 3) (v := .ref q47) (ty := .array .int) (C := RX3) (T := TX3) (N := 16) hx hb hts hinX3 tyX3 tyX3_ok nmX3 hown hK hP hD hS 0 rfl rfl 8 (by decide) (hts (.fieldLink RX3 24 "WhistleTunes$School" "timesWhistled" "[I") (by decide +kernel)) (fun _ h9 => h9) rfl hin2 rfl (by decide +kernel) rfl rfl (Nat.le_of_ble_eq_true rfl) dX3_init_49 (fun H locs hP hD hS => ?_)
  have hP : va_P G vwCl ([(b, .inr (3, [.int 0, .int 0, .int 0, .int 0, .ref q6, .ref q22, .ref q31, .ref q39, .ref q47, .null, .null, .null, .null, .null, .null, .null])), (q6, .inl (T 0, 2, .inl (upd (upd (fun _ => 0) 0 (nI 1)) 1 (nI 3)))), (q22, .inl (T 0, 20, .inl (fun _ => 0))), (q31, .inl (T 0, 160, .inl (fun _ => 0))), (q39, .inl (T 0, 20, .inl (fun _ => 0))), (q47, .inl (T 0, 20, .inl (fun _ => 0)))]) H := hP
  have hD : va_D A ([(b, .inr (3, [.int 0, .int 0, .int 0, .int 0, .ref q6, .ref q22, .ref q31, .ref q39, .ref q47, .null, .null, .null, .null, .null, .null, .null])), (q6, .inl (T 0, 2, .inl (upd (upd (fun _ => 0) 0 (nI 1)) 1 (nI 3)))), (q22, .inl (T 0, 20, .inl (fun _ => 0))), (q31, .inl (T 0, 160, .inl (fun _ => 0))), (q39, .inl (T 0, 20, .inl (fun _ => 0))), (q47, .inl (T 0, 20, .inl (fun _ => 0)))]) := hD
  refine lv_aload_n hx hb dX3_init_52 rfl (lv_at hl 0 rfl) ?_
  refine lv_bipush (v := nI 20) hx hb dX3_init_53 (by decide) ?_
  refine n_newa (atype := .int) (ty := .int) hx hb (hts (.arrayClass .int) (by decide +kernel)) rfl 0 rfl hK hP hD hS hA 20 (a0 := (20, .inl (fun _ => 0))) (fun _ => rfl) (by decide) (Nat.le_of_ble_eq_true rfl) (Nat.le_of_ble_eq_true rfl) (Nat.le_of_ble_eq_true rfl) dX3_init_55 (fun q55 H hP hD hS => ?_)
  have hP : va_P G vwCl ([(b, .inr (3, [.int 0, .int 0, .int 0, .int 0, .ref q6, .ref q22, .ref q31, .ref q39, .ref q47, .null, .null, .null, .null, .null, .null, .null])), (q6, .inl (T 0, 2, .inl (upd (upd (fun _ => 0) 0 (nI 1)) 1 (nI 3)))), (q22, .inl (T 0, 20, .inl (fun _ => 0))), (q31, .inl (T 0, 160, .inl (fun _ => 0))), (q39, .inl (T 0, 20, .inl (fun _ => 0))), (q47, .inl (T 0, 20, .inl (fun _ => 0))), (q55, .inl (T 0, 20, .inl (fun _ => 0)))]) H := hP
  have hD : va_D A ([(b, .inr (3, [.int 0, .int 0, .int 0, .int 0, .ref q6, .ref q22, .ref q31, .ref q39, .ref q47, .null, .null, .null, .null, .null, .null, .null])), (q6, .inl (T 0, 2, .inl (upd (upd (fun _ => 0) 0 (nI 1)) 1 (nI 3)))), (q22, .inl (T 0, 20, .inl (fun _ => 0))), (q31, .inl (T 0, 160, .inl (fun _ => 0))), (q39, .inl (T 0, 20, .inl (fun _ => 0))), (q47, .inl (T 0, 20, .inl (fun _ => 0))), (q55, .inl (T 0, 20, .inl (fun _ => 0)))]) := hD
  refine va_putF (D := G) (ci := 3) (v := .ref q55) (ty := .array .int) (C := RX3) (T := TX3) (N := 16) hx hb hts hinX3 tyX3 tyX3_ok nmX3 hown hK hP hD hS 0 rfl rfl 9 (by decide) (hts (.fieldLink RX3 27 "WhistleTunes$School" "timesUnderstood" "[I") (by decide +kernel)) (fun _ h9 => h9) rfl hin2 rfl (by decide +kernel) rfl rfl (Nat.le_of_ble_eq_true rfl) dX3_init_57 (fun H locs hP hD hS => ?_)
  have hP : va_P G vwCl ([(b, .inr (3, [.int 0, .int 0, .int 0, .int 0, .ref q6, .ref q22, .ref q31, .ref q39, .ref q47, .ref q55, .null, .null, .null, .null, .null, .null])), (q6, .inl (T 0, 2, .inl (upd (upd (fun _ => 0) 0 (nI 1)) 1 (nI 3)))), (q22, .inl (T 0, 20, .inl (fun _ => 0))), (q31, .inl (T 0, 160, .inl (fun _ => 0))), (q39, .inl (T 0, 20, .inl (fun _ => 0))), (q47, .inl (T 0, 20, .inl (fun _ => 0))), (q55, .inl (T 0, 20, .inl (fun _ => 0)))]) H := hP
  have hD : va_D A ([(b, .inr (3, [.int 0, .int 0, .int 0, .int 0, .ref q6, .ref q22, .ref q31, .ref q39, .ref q47, .ref q55, .null, .null, .null, .null, .null, .null])), (q6, .inl (T 0, 2, .inl (upd (upd (fun _ => 0) 0 (nI 1)) 1 (nI 3)))), (q22, .inl (T 0, 20, .inl (fun _ => 0))), (q31, .inl (T 0, 160, .inl (fun _ => 0))), (q39, .inl (T 0, 20, .inl (fun _ => 0))), (q47, .inl (T 0, 20, .inl (fun _ => 0))), (q55, .inl (T 0, 20, .inl (fun _ => 0)))]) := hD
  refine lv_aload_n hx hb dX3_init_60 rfl (lv_at hl 0 rfl) ?_
  refine lv_bipush (v := nI 6) hx hb dX3_init_61 (by decide) ?_
  refine n_newa (atype := .int) (ty := .int) hx hb (hts (.arrayClass .int) (by decide +kernel)) rfl 0 rfl hK hP hD hS hA 6 (a0 := (6, .inl (fun _ => 0))) (fun _ => rfl) (by decide) (Nat.le_of_ble_eq_true rfl) (Nat.le_of_ble_eq_true rfl) (Nat.le_of_ble_eq_true rfl) dX3_init_63 (fun q63 H hP hD hS => ?_)
  have hP : va_P G vwCl ([(b, .inr (3, [.int 0, .int 0, .int 0, .int 0, .ref q6, .ref q22, .ref q31, .ref q39, .ref q47, .ref q55, .null, .null, .null, .null, .null, .null])), (q6, .inl (T 0, 2, .inl (upd (upd (fun _ => 0) 0 (nI 1)) 1 (nI 3)))), (q22, .inl (T 0, 20, .inl (fun _ => 0))), (q31, .inl (T 0, 160, .inl (fun _ => 0))), (q39, .inl (T 0, 20, .inl (fun _ => 0))), (q47, .inl (T 0, 20, .inl (fun _ => 0))), (q55, .inl (T 0, 20, .inl (fun _ => 0))), (q63, .inl (T 0, 6, .inl (fun _ => 0)))]) H := hP
  have hD : va_D A ([(b, .inr (3, [.int 0, .int 0, .int 0, .int 0, .ref q6, .ref q22, .ref q31, .ref q39, .ref q47, .ref q55, .null, .null, .null, .null, .null, .null])), (q6, .inl (T 0, 2, .inl (upd (upd (fun _ => 0) 0 (nI 1)) 1 (nI 3)))), (q22, .inl (T 0, 20, .inl (fun _ => 0))), (q31, .inl (T 0, 160, .inl (fun _ => 0))), (q39, .inl (T 0, 20, .inl (fun _ => 0))), (q47, .inl (T 0, 20, .inl (fun _ => 0))), (q55, .inl (T 0, 20, .inl (fun _ => 0))), (q63, .inl (T 0, 6, .inl (fun _ => 0)))]) := hD
  refine va_putF (D := G) (ci := 3) (v := .ref q63) (ty := .array .int) (C := RX3) (T := TX3) (N := 16) hx hb hts hinX3 tyX3 tyX3_ok nmX3 hown hK hP hD hS 0 rfl rfl 10 (by decide) (hts (.fieldLink RX3 30 "WhistleTunes$School" "roomKeys" "[I") (by decide +kernel)) (fun _ h9 => h9) rfl hin2 rfl (by decide +kernel) rfl rfl (Nat.le_of_ble_eq_true rfl) dX3_init_65 (fun H locs hP hD hS => ?_)
  have hP : va_P G vwCl ([(b, .inr (3, [.int 0, .int 0, .int 0, .int 0, .ref q6, .ref q22, .ref q31, .ref q39, .ref q47, .ref q55, .ref q63, .null, .null, .null, .null, .null])), (q6, .inl (T 0, 2, .inl (upd (upd (fun _ => 0) 0 (nI 1)) 1 (nI 3)))), (q22, .inl (T 0, 20, .inl (fun _ => 0))), (q31, .inl (T 0, 160, .inl (fun _ => 0))), (q39, .inl (T 0, 20, .inl (fun _ => 0))), (q47, .inl (T 0, 20, .inl (fun _ => 0))), (q55, .inl (T 0, 20, .inl (fun _ => 0))), (q63, .inl (T 0, 6, .inl (fun _ => 0)))]) H := hP
  have hD : va_D A ([(b, .inr (3, [.int 0, .int 0, .int 0, .int 0, .ref q6, .ref q22, .ref q31, .ref q39, .ref q47, .ref q55, .ref q63, .null, .null, .null, .null, .null])), (q6, .inl (T 0, 2, .inl (upd (upd (fun _ => 0) 0 (nI 1)) 1 (nI 3)))), (q22, .inl (T 0, 20, .inl (fun _ => 0))), (q31, .inl (T 0, 160, .inl (fun _ => 0))), (q39, .inl (T 0, 20, .inl (fun _ => 0))), (q47, .inl (T 0, 20, .inl (fun _ => 0))), (q55, .inl (T 0, 20, .inl (fun _ => 0))), (q63, .inl (T 0, 6, .inl (fun _ => 0)))]) := hD
  refine lv_aload_n hx hb dX3_init_68 rfl (lv_at hl 0 rfl) ?_
  refine lv_bipush (v := nI 6) hx hb dX3_init_69 (by decide) ?_
  refine n_newa (atype := .int) (ty := .int) hx hb (hts (.arrayClass .int) (by decide +kernel)) rfl 0 rfl hK hP hD hS hA 6 (a0 := (6, .inl (fun _ => 0))) (fun _ => rfl) (by decide) (Nat.le_of_ble_eq_true rfl) (Nat.le_of_ble_eq_true rfl) (Nat.le_of_ble_eq_true rfl) dX3_init_71 (fun q71 H hP hD hS => ?_)
  have hP : va_P G vwCl ([(b, .inr (3, [.int 0, .int 0, .int 0, .int 0, .ref q6, .ref q22, .ref q31, .ref q39, .ref q47, .ref q55, .ref q63, .null, .null, .null, .null, .null])), (q6, .inl (T 0, 2, .inl (upd (upd (fun _ => 0) 0 (nI 1)) 1 (nI 3)))), (q22, .inl (T 0, 20, .inl (fun _ => 0))), (q31, .inl (T 0, 160, .inl (fun _ => 0))), (q39, .inl (T 0, 20, .inl (fun _ => 0))), (q47, .inl (T 0, 20, .inl (fun _ => 0))), (q55, .inl (T 0, 20, .inl (fun _ => 0))), (q63, .inl (T 0, 6, .inl (fun _ => 0))), (q71, .inl (T 0, 6, .inl (fun _ => 0)))]) H := hP
  have hD : va_D A ([(b, .inr (3, [.int 0, .int 0, .int 0, .int 0, .ref q6, .ref q22, .ref q31, .ref q39, .ref q47, .ref q55, .ref q63, .null, .null, .null, .null, .null])), (q6, .inl (T 0, 2, .inl (upd (upd (fun _ => 0) 0 (nI 1)) 1 (nI 3)))), (q22, .inl (T 0, 20, .inl (fun _ => 0))), (q31, .inl (T 0, 160, .inl (fun _ => 0))), (q39, .inl (T 0, 20, .inl (fun _ => 0))), (q47, .inl (T 0, 20, .inl (fun _ => 0))), (q55, .inl (T 0, 20, .inl (fun _ => 0))), (q63, .inl (T 0, 6, .inl (fun _ => 0))), (q71, .inl (T 0, 6, .inl (fun _ => 0)))]) := hD
  refine va_putF (D := G) (ci := 3) (v := .ref q71) (ty := .array .int) (C := RX3) (T := TX3) (N := 16) hx hb hts hinX3 tyX3 tyX3_ok nmX3 hown hK hP hD hS 0 rfl rfl 11 (by decide) (hts (.fieldLink RX3 33 "WhistleTunes$School" "roomMarks" "[I") (by decide +kernel)) (fun _ h9 => h9) rfl hin2 rfl (by decide +kernel) rfl rfl (Nat.le_of_ble_eq_true rfl) dX3_init_73 (fun H locs hP hD hS => ?_)
  have hP : va_P G vwCl ([(b, .inr (3, [.int 0, .int 0, .int 0, .int 0, .ref q6, .ref q22, .ref q31, .ref q39, .ref q47, .ref q55, .ref q63, .ref q71, .null, .null, .null, .null])), (q6, .inl (T 0, 2, .inl (upd (upd (fun _ => 0) 0 (nI 1)) 1 (nI 3)))), (q22, .inl (T 0, 20, .inl (fun _ => 0))), (q31, .inl (T 0, 160, .inl (fun _ => 0))), (q39, .inl (T 0, 20, .inl (fun _ => 0))), (q47, .inl (T 0, 20, .inl (fun _ => 0))), (q55, .inl (T 0, 20, .inl (fun _ => 0))), (q63, .inl (T 0, 6, .inl (fun _ => 0))), (q71, .inl (T 0, 6, .inl (fun _ => 0)))]) H := hP
  have hD : va_D A ([(b, .inr (3, [.int 0, .int 0, .int 0, .int 0, .ref q6, .ref q22, .ref q31, .ref q39, .ref q47, .ref q55, .ref q63, .ref q71, .null, .null, .null, .null])), (q6, .inl (T 0, 2, .inl (upd (upd (fun _ => 0) 0 (nI 1)) 1 (nI 3)))), (q22, .inl (T 0, 20, .inl (fun _ => 0))), (q31, .inl (T 0, 160, .inl (fun _ => 0))), (q39, .inl (T 0, 20, .inl (fun _ => 0))), (q47, .inl (T 0, 20, .inl (fun _ => 0))), (q55, .inl (T 0, 20, .inl (fun _ => 0))), (q63, .inl (T 0, 6, .inl (fun _ => 0))), (q71, .inl (T 0, 6, .inl (fun _ => 0)))]) := hD
  refine lv_aload_n hx hb dX3_init_76 rfl (lv_at hl 0 rfl) ?_
  refine lv_bipush (v := nI 6) hx hb dX3_init_77 (by decide) ?_
  refine n_newa (atype := .int) (ty := .int) hx hb (hts (.arrayClass .int) (by decide +kernel)) rfl 0 rfl hK hP hD hS hA 6 (a0 := (6, .inl (fun _ => 0))) (fun _ => rfl) (by decide) (Nat.le_of_ble_eq_true rfl) (Nat.le_of_ble_eq_true rfl) (Nat.le_of_ble_eq_true rfl) dX3_init_79 (fun q79 H hP hD hS => ?_)
  have hP : va_P G vwCl ([(b, .inr (3, [.int 0, .int 0, .int 0, .int 0, .ref q6, .ref q22, .ref q31, .ref q39, .ref q47, .ref q55, .ref q63, .ref q71, .null, .null, .null, .null])), (q6, .inl (T 0, 2, .inl (upd (upd (fun _ => 0) 0 (nI 1)) 1 (nI 3)))), (q22, .inl (T 0, 20, .inl (fun _ => 0))), (q31, .inl (T 0, 160, .inl (fun _ => 0))), (q39, .inl (T 0, 20, .inl (fun _ => 0))), (q47, .inl (T 0, 20, .inl (fun _ => 0))), (q55, .inl (T 0, 20, .inl (fun _ => 0))), (q63, .inl (T 0, 6, .inl (fun _ => 0))), (q71, .inl (T 0, 6, .inl (fun _ => 0))), (q79, .inl (T 0, 6, .inl (fun _ => 0)))]) H := hP
  have hD : va_D A ([(b, .inr (3, [.int 0, .int 0, .int 0, .int 0, .ref q6, .ref q22, .ref q31, .ref q39, .ref q47, .ref q55, .ref q63, .ref q71, .null, .null, .null, .null])), (q6, .inl (T 0, 2, .inl (upd (upd (fun _ => 0) 0 (nI 1)) 1 (nI 3)))), (q22, .inl (T 0, 20, .inl (fun _ => 0))), (q31, .inl (T 0, 160, .inl (fun _ => 0))), (q39, .inl (T 0, 20, .inl (fun _ => 0))), (q47, .inl (T 0, 20, .inl (fun _ => 0))), (q55, .inl (T 0, 20, .inl (fun _ => 0))), (q63, .inl (T 0, 6, .inl (fun _ => 0))), (q71, .inl (T 0, 6, .inl (fun _ => 0))), (q79, .inl (T 0, 6, .inl (fun _ => 0)))]) := hD
  refine va_putF (D := G) (ci := 3) (v := .ref q79) (ty := .array .int) (C := RX3) (T := TX3) (N := 16) hx hb hts hinX3 tyX3 tyX3_ok nmX3 hown hK hP hD hS 0 rfl rfl 12 (by decide) (hts (.fieldLink RX3 36 "WhistleTunes$School" "roomUnderstood" "[I") (by decide +kernel)) (fun _ h9 => h9) rfl hin2 rfl (by decide +kernel) rfl rfl (Nat.le_of_ble_eq_true rfl) dX3_init_81 (fun H locs hP hD hS => ?_)
  have hP : va_P G vwCl ([(b, .inr (3, [.int 0, .int 0, .int 0, .int 0, .ref q6, .ref q22, .ref q31, .ref q39, .ref q47, .ref q55, .ref q63, .ref q71, .ref q79, .null, .null, .null])), (q6, .inl (T 0, 2, .inl (upd (upd (fun _ => 0) 0 (nI 1)) 1 (nI 3)))), (q22, .inl (T 0, 20, .inl (fun _ => 0))), (q31, .inl (T 0, 160, .inl (fun _ => 0))), (q39, .inl (T 0, 20, .inl (fun _ => 0))), (q47, .inl (T 0, 20, .inl (fun _ => 0))), (q55, .inl (T 0, 20, .inl (fun _ => 0))), (q63, .inl (T 0, 6, .inl (fun _ => 0))), (q71, .inl (T 0, 6, .inl (fun _ => 0))), (q79, .inl (T 0, 6, .inl (fun _ => 0)))]) H := hP
  have hD : va_D A ([(b, .inr (3, [.int 0, .int 0, .int 0, .int 0, .ref q6, .ref q22, .ref q31, .ref q39, .ref q47, .ref q55, .ref q63, .ref q71, .ref q79, .null, .null, .null])), (q6, .inl (T 0, 2, .inl (upd (upd (fun _ => 0) 0 (nI 1)) 1 (nI 3)))), (q22, .inl (T 0, 20, .inl (fun _ => 0))), (q31, .inl (T 0, 160, .inl (fun _ => 0))), (q39, .inl (T 0, 20, .inl (fun _ => 0))), (q47, .inl (T 0, 20, .inl (fun _ => 0))), (q55, .inl (T 0, 20, .inl (fun _ => 0))), (q63, .inl (T 0, 6, .inl (fun _ => 0))), (q71, .inl (T 0, 6, .inl (fun _ => 0))), (q79, .inl (T 0, 6, .inl (fun _ => 0)))]) := hD
  refine lv_aload_n hx hb dX3_init_84 rfl (lv_at hl 0 rfl) ?_
  refine lv_bipush (v := nI 6) hx hb dX3_init_85 (by decide) ?_
  refine n_newa (atype := .int) (ty := .int) hx hb (hts (.arrayClass .int) (by decide +kernel)) rfl 0 rfl hK hP hD hS hA 6 (a0 := (6, .inl (fun _ => 0))) (fun _ => rfl) (by decide) (Nat.le_of_ble_eq_true rfl) (Nat.le_of_ble_eq_true rfl) (Nat.le_of_ble_eq_true rfl) dX3_init_87 (fun q87 H hP hD hS => ?_)
  have hP : va_P G vwCl ([(b, .inr (3, [.int 0, .int 0, .int 0, .int 0, .ref q6, .ref q22, .ref q31, .ref q39, .ref q47, .ref q55, .ref q63, .ref q71, .ref q79, .null, .null, .null])), (q6, .inl (T 0, 2, .inl (upd (upd (fun _ => 0) 0 (nI 1)) 1 (nI 3)))), (q22, .inl (T 0, 20, .inl (fun _ => 0))), (q31, .inl (T 0, 160, .inl (fun _ => 0))), (q39, .inl (T 0, 20, .inl (fun _ => 0))), (q47, .inl (T 0, 20, .inl (fun _ => 0))), (q55, .inl (T 0, 20, .inl (fun _ => 0))), (q63, .inl (T 0, 6, .inl (fun _ => 0))), (q71, .inl (T 0, 6, .inl (fun _ => 0))), (q79, .inl (T 0, 6, .inl (fun _ => 0))), (q87, .inl (T 0, 6, .inl (fun _ => 0)))]) H := hP
  have hD : va_D A ([(b, .inr (3, [.int 0, .int 0, .int 0, .int 0, .ref q6, .ref q22, .ref q31, .ref q39, .ref q47, .ref q55, .ref q63, .ref q71, .ref q79, .null, .null, .null])), (q6, .inl (T 0, 2, .inl (upd (upd (fun _ => 0) 0 (nI 1)) 1 (nI 3)))), (q22, .inl (T 0, 20, .inl (fun _ => 0))), (q31, .inl (T 0, 160, .inl (fun _ => 0))), (q39, .inl (T 0, 20, .inl (fun _ => 0))), (q47, .inl (T 0, 20, .inl (fun _ => 0))), (q55, .inl (T 0, 20, .inl (fun _ => 0))), (q63, .inl (T 0, 6, .inl (fun _ => 0))), (q71, .inl (T 0, 6, .inl (fun _ => 0))), (q79, .inl (T 0, 6, .inl (fun _ => 0))), (q87, .inl (T 0, 6, .inl (fun _ => 0)))]) := hD
  refine va_putF (D := G) (ci := 3) (v := .ref q87) (ty := .array .int) (C := RX3) (T := TX3) (N := 16) hx hb hts hinX3 tyX3 tyX3_ok nmX3 hown hK hP hD hS 0 rfl rfl 13 (by decide) (hts (.fieldLink RX3 39 "WhistleTunes$School" "roomNoise" "[I") (by decide +kernel)) (fun _ h9 => h9) rfl hin2 rfl (by decide +kernel) rfl rfl (Nat.le_of_ble_eq_true rfl) dX3_init_89 (fun H locs hP hD hS => ?_)
  have hP : va_P G vwCl ([(b, .inr (3, [.int 0, .int 0, .int 0, .int 0, .ref q6, .ref q22, .ref q31, .ref q39, .ref q47, .ref q55, .ref q63, .ref q71, .ref q79, .ref q87, .null, .null])), (q6, .inl (T 0, 2, .inl (upd (upd (fun _ => 0) 0 (nI 1)) 1 (nI 3)))), (q22, .inl (T 0, 20, .inl (fun _ => 0))), (q31, .inl (T 0, 160, .inl (fun _ => 0))), (q39, .inl (T 0, 20, .inl (fun _ => 0))), (q47, .inl (T 0, 20, .inl (fun _ => 0))), (q55, .inl (T 0, 20, .inl (fun _ => 0))), (q63, .inl (T 0, 6, .inl (fun _ => 0))), (q71, .inl (T 0, 6, .inl (fun _ => 0))), (q79, .inl (T 0, 6, .inl (fun _ => 0))), (q87, .inl (T 0, 6, .inl (fun _ => 0)))]) H := hP
  have hD : va_D A ([(b, .inr (3, [.int 0, .int 0, .int 0, .int 0, .ref q6, .ref q22, .ref q31, .ref q39, .ref q47, .ref q55, .ref q63, .ref q71, .ref q79, .ref q87, .null, .null])), (q6, .inl (T 0, 2, .inl (upd (upd (fun _ => 0) 0 (nI 1)) 1 (nI 3)))), (q22, .inl (T 0, 20, .inl (fun _ => 0))), (q31, .inl (T 0, 160, .inl (fun _ => 0))), (q39, .inl (T 0, 20, .inl (fun _ => 0))), (q47, .inl (T 0, 20, .inl (fun _ => 0))), (q55, .inl (T 0, 20, .inl (fun _ => 0))), (q63, .inl (T 0, 6, .inl (fun _ => 0))), (q71, .inl (T 0, 6, .inl (fun _ => 0))), (q79, .inl (T 0, 6, .inl (fun _ => 0))), (q87, .inl (T 0, 6, .inl (fun _ => 0)))]) := hD
  refine lv_aload_n hx hb dX3_init_92 rfl (lv_at hl 0 rfl) ?_
  refine lv_bipush (v := nI 6) hx hb dX3_init_93 (by decide) ?_
  refine n_newa (atype := .int) (ty := .int) hx hb (hts (.arrayClass .int) (by decide +kernel)) rfl 0 rfl hK hP hD hS hA 6 (a0 := (6, .inl (fun _ => 0))) (fun _ => rfl) (by decide) (Nat.le_of_ble_eq_true rfl) (Nat.le_of_ble_eq_true rfl) (Nat.le_of_ble_eq_true rfl) dX3_init_95 (fun q95 H hP hD hS => ?_)
  have hP : va_P G vwCl ([(b, .inr (3, [.int 0, .int 0, .int 0, .int 0, .ref q6, .ref q22, .ref q31, .ref q39, .ref q47, .ref q55, .ref q63, .ref q71, .ref q79, .ref q87, .null, .null])), (q6, .inl (T 0, 2, .inl (upd (upd (fun _ => 0) 0 (nI 1)) 1 (nI 3)))), (q22, .inl (T 0, 20, .inl (fun _ => 0))), (q31, .inl (T 0, 160, .inl (fun _ => 0))), (q39, .inl (T 0, 20, .inl (fun _ => 0))), (q47, .inl (T 0, 20, .inl (fun _ => 0))), (q55, .inl (T 0, 20, .inl (fun _ => 0))), (q63, .inl (T 0, 6, .inl (fun _ => 0))), (q71, .inl (T 0, 6, .inl (fun _ => 0))), (q79, .inl (T 0, 6, .inl (fun _ => 0))), (q87, .inl (T 0, 6, .inl (fun _ => 0))), (q95, .inl (T 0, 6, .inl (fun _ => 0)))]) H := hP
  have hD : va_D A ([(b, .inr (3, [.int 0, .int 0, .int 0, .int 0, .ref q6, .ref q22, .ref q31, .ref q39, .ref q47, .ref q55, .ref q63, .ref q71, .ref q79, .ref q87, .null, .null])), (q6, .inl (T 0, 2, .inl (upd (upd (fun _ => 0) 0 (nI 1)) 1 (nI 3)))), (q22, .inl (T 0, 20, .inl (fun _ => 0))), (q31, .inl (T 0, 160, .inl (fun _ => 0))), (q39, .inl (T 0, 20, .inl (fun _ => 0))), (q47, .inl (T 0, 20, .inl (fun _ => 0))), (q55, .inl (T 0, 20, .inl (fun _ => 0))), (q63, .inl (T 0, 6, .inl (fun _ => 0))), (q71, .inl (T 0, 6, .inl (fun _ => 0))), (q79, .inl (T 0, 6, .inl (fun _ => 0))), (q87, .inl (T 0, 6, .inl (fun _ => 0))), (q95, .inl (T 0, 6, .inl (fun _ => 0)))]) := hD
  refine lv_dup hx hb dX3_init_97 rfl ?_
  refine n_iconst hx hb 0 dX3_init_98 (by decide) ?_
  refine lv_iconst (v := -1) hx hb dX3_init_99 (by decide) ?_
  refine n_iast hx hb hK hP hD hS 11 0 rfl rfl 0 (by decide) (by decide) dX3_init_100 (fun H locs hP hD hS => ?_)
  have hP : va_P G vwCl ([(b, .inr (3, [.int 0, .int 0, .int 0, .int 0, .ref q6, .ref q22, .ref q31, .ref q39, .ref q47, .ref q55, .ref q63, .ref q71, .ref q79, .ref q87, .null, .null])), (q6, .inl (T 0, 2, .inl (upd (upd (fun _ => 0) 0 (nI 1)) 1 (nI 3)))), (q22, .inl (T 0, 20, .inl (fun _ => 0))), (q31, .inl (T 0, 160, .inl (fun _ => 0))), (q39, .inl (T 0, 20, .inl (fun _ => 0))), (q47, .inl (T 0, 20, .inl (fun _ => 0))), (q55, .inl (T 0, 20, .inl (fun _ => 0))), (q63, .inl (T 0, 6, .inl (fun _ => 0))), (q71, .inl (T 0, 6, .inl (fun _ => 0))), (q79, .inl (T 0, 6, .inl (fun _ => 0))), (q87, .inl (T 0, 6, .inl (fun _ => 0))), (q95, .inl (T 0, 6, .inl (upd (fun _ => 0) 0 (-1))))]) H := hP
  have hD : va_D A ([(b, .inr (3, [.int 0, .int 0, .int 0, .int 0, .ref q6, .ref q22, .ref q31, .ref q39, .ref q47, .ref q55, .ref q63, .ref q71, .ref q79, .ref q87, .null, .null])), (q6, .inl (T 0, 2, .inl (upd (upd (fun _ => 0) 0 (nI 1)) 1 (nI 3)))), (q22, .inl (T 0, 20, .inl (fun _ => 0))), (q31, .inl (T 0, 160, .inl (fun _ => 0))), (q39, .inl (T 0, 20, .inl (fun _ => 0))), (q47, .inl (T 0, 20, .inl (fun _ => 0))), (q55, .inl (T 0, 20, .inl (fun _ => 0))), (q63, .inl (T 0, 6, .inl (fun _ => 0))), (q71, .inl (T 0, 6, .inl (fun _ => 0))), (q79, .inl (T 0, 6, .inl (fun _ => 0))), (q87, .inl (T 0, 6, .inl (fun _ => 0))), (q95, .inl (T 0, 6, .inl (upd (fun _ => 0) 0 (-1))))]) := hD
  refine lv_dup hx hb dX3_init_101 rfl ?_
  refine n_iconst hx hb 1 dX3_init_102 (by decide) ?_
  refine lv_iconst (v := -1) hx hb dX3_init_103 (by decide) ?_
  refine n_iast hx hb hK hP hD hS 11 0 rfl rfl 1 (by decide) (by decide) dX3_init_104 (fun H locs hP hD hS => ?_)
  have hP : va_P G vwCl ([(b, .inr (3, [.int 0, .int 0, .int 0, .int 0, .ref q6, .ref q22, .ref q31, .ref q39, .ref q47, .ref q55, .ref q63, .ref q71, .ref q79, .ref q87, .null, .null])), (q6, .inl (T 0, 2, .inl (upd (upd (fun _ => 0) 0 (nI 1)) 1 (nI 3)))), (q22, .inl (T 0, 20, .inl (fun _ => 0))), (q31, .inl (T 0, 160, .inl (fun _ => 0))), (q39, .inl (T 0, 20, .inl (fun _ => 0))), (q47, .inl (T 0, 20, .inl (fun _ => 0))), (q55, .inl (T 0, 20, .inl (fun _ => 0))), (q63, .inl (T 0, 6, .inl (fun _ => 0))), (q71, .inl (T 0, 6, .inl (fun _ => 0))), (q79, .inl (T 0, 6, .inl (fun _ => 0))), (q87, .inl (T 0, 6, .inl (fun _ => 0))), (q95, .inl (T 0, 6, .inl (upd (upd (fun _ => 0) 0 (-1)) 1 (-1))))]) H := hP
  have hD : va_D A ([(b, .inr (3, [.int 0, .int 0, .int 0, .int 0, .ref q6, .ref q22, .ref q31, .ref q39, .ref q47, .ref q55, .ref q63, .ref q71, .ref q79, .ref q87, .null, .null])), (q6, .inl (T 0, 2, .inl (upd (upd (fun _ => 0) 0 (nI 1)) 1 (nI 3)))), (q22, .inl (T 0, 20, .inl (fun _ => 0))), (q31, .inl (T 0, 160, .inl (fun _ => 0))), (q39, .inl (T 0, 20, .inl (fun _ => 0))), (q47, .inl (T 0, 20, .inl (fun _ => 0))), (q55, .inl (T 0, 20, .inl (fun _ => 0))), (q63, .inl (T 0, 6, .inl (fun _ => 0))), (q71, .inl (T 0, 6, .inl (fun _ => 0))), (q79, .inl (T 0, 6, .inl (fun _ => 0))), (q87, .inl (T 0, 6, .inl (fun _ => 0))), (q95, .inl (T 0, 6, .inl (upd (upd (fun _ => 0) 0 (-1)) 1 (-1))))]) := hD
  refine lv_dup hx hb dX3_init_105 rfl ?_
  refine n_iconst hx hb 2 dX3_init_106 (by decide) ?_
  refine lv_iconst (v := -1) hx hb dX3_init_107 (by decide) ?_
  refine n_iast hx hb hK hP hD hS 11 0 rfl rfl 2 (by decide) (by decide) dX3_init_108 (fun H locs hP hD hS => ?_)
  have hP : va_P G vwCl ([(b, .inr (3, [.int 0, .int 0, .int 0, .int 0, .ref q6, .ref q22, .ref q31, .ref q39, .ref q47, .ref q55, .ref q63, .ref q71, .ref q79, .ref q87, .null, .null])), (q6, .inl (T 0, 2, .inl (upd (upd (fun _ => 0) 0 (nI 1)) 1 (nI 3)))), (q22, .inl (T 0, 20, .inl (fun _ => 0))), (q31, .inl (T 0, 160, .inl (fun _ => 0))), (q39, .inl (T 0, 20, .inl (fun _ => 0))), (q47, .inl (T 0, 20, .inl (fun _ => 0))), (q55, .inl (T 0, 20, .inl (fun _ => 0))), (q63, .inl (T 0, 6, .inl (fun _ => 0))), (q71, .inl (T 0, 6, .inl (fun _ => 0))), (q79, .inl (T 0, 6, .inl (fun _ => 0))), (q87, .inl (T 0, 6, .inl (fun _ => 0))), (q95, .inl (T 0, 6, .inl (upd (upd (upd (fun _ => 0) 0 (-1)) 1 (-1)) 2 (-1))))]) H := hP
  have hD : va_D A ([(b, .inr (3, [.int 0, .int 0, .int 0, .int 0, .ref q6, .ref q22, .ref q31, .ref q39, .ref q47, .ref q55, .ref q63, .ref q71, .ref q79, .ref q87, .null, .null])), (q6, .inl (T 0, 2, .inl (upd (upd (fun _ => 0) 0 (nI 1)) 1 (nI 3)))), (q22, .inl (T 0, 20, .inl (fun _ => 0))), (q31, .inl (T 0, 160, .inl (fun _ => 0))), (q39, .inl (T 0, 20, .inl (fun _ => 0))), (q47, .inl (T 0, 20, .inl (fun _ => 0))), (q55, .inl (T 0, 20, .inl (fun _ => 0))), (q63, .inl (T 0, 6, .inl (fun _ => 0))), (q71, .inl (T 0, 6, .inl (fun _ => 0))), (q79, .inl (T 0, 6, .inl (fun _ => 0))), (q87, .inl (T 0, 6, .inl (fun _ => 0))), (q95, .inl (T 0, 6, .inl (upd (upd (upd (fun _ => 0) 0 (-1)) 1 (-1)) 2 (-1))))]) := hD
  refine lv_dup hx hb dX3_init_109 rfl ?_
  refine n_iconst hx hb 3 dX3_init_110 (by decide) ?_
  refine lv_iconst (v := -1) hx hb dX3_init_111 (by decide) ?_
  refine n_iast hx hb hK hP hD hS 11 0 rfl rfl 3 (by decide) (by decide) dX3_init_112 (fun H locs hP hD hS => ?_)
  have hP : va_P G vwCl ([(b, .inr (3, [.int 0, .int 0, .int 0, .int 0, .ref q6, .ref q22, .ref q31, .ref q39, .ref q47, .ref q55, .ref q63, .ref q71, .ref q79, .ref q87, .null, .null])), (q6, .inl (T 0, 2, .inl (upd (upd (fun _ => 0) 0 (nI 1)) 1 (nI 3)))), (q22, .inl (T 0, 20, .inl (fun _ => 0))), (q31, .inl (T 0, 160, .inl (fun _ => 0))), (q39, .inl (T 0, 20, .inl (fun _ => 0))), (q47, .inl (T 0, 20, .inl (fun _ => 0))), (q55, .inl (T 0, 20, .inl (fun _ => 0))), (q63, .inl (T 0, 6, .inl (fun _ => 0))), (q71, .inl (T 0, 6, .inl (fun _ => 0))), (q79, .inl (T 0, 6, .inl (fun _ => 0))), (q87, .inl (T 0, 6, .inl (fun _ => 0))), (q95, .inl (T 0, 6, .inl (upd (upd (upd (upd (fun _ => 0) 0 (-1)) 1 (-1)) 2 (-1)) 3 (-1))))]) H := hP
  have hD : va_D A ([(b, .inr (3, [.int 0, .int 0, .int 0, .int 0, .ref q6, .ref q22, .ref q31, .ref q39, .ref q47, .ref q55, .ref q63, .ref q71, .ref q79, .ref q87, .null, .null])), (q6, .inl (T 0, 2, .inl (upd (upd (fun _ => 0) 0 (nI 1)) 1 (nI 3)))), (q22, .inl (T 0, 20, .inl (fun _ => 0))), (q31, .inl (T 0, 160, .inl (fun _ => 0))), (q39, .inl (T 0, 20, .inl (fun _ => 0))), (q47, .inl (T 0, 20, .inl (fun _ => 0))), (q55, .inl (T 0, 20, .inl (fun _ => 0))), (q63, .inl (T 0, 6, .inl (fun _ => 0))), (q71, .inl (T 0, 6, .inl (fun _ => 0))), (q79, .inl (T 0, 6, .inl (fun _ => 0))), (q87, .inl (T 0, 6, .inl (fun _ => 0))), (q95, .inl (T 0, 6, .inl (upd (upd (upd (upd (fun _ => 0) 0 (-1)) 1 (-1)) 2 (-1)) 3 (-1))))]) := hD
  refine lv_dup hx hb dX3_init_113 rfl ?_
  refine n_iconst hx hb 4 dX3_init_114 (by decide) ?_
  refine lv_iconst (v := -1) hx hb dX3_init_115 (by decide) ?_
  refine n_iast hx hb hK hP hD hS 11 0 rfl rfl 4 (by decide) (by decide) dX3_init_116 (fun H locs hP hD hS => ?_)
  have hP : va_P G vwCl ([(b, .inr (3, [.int 0, .int 0, .int 0, .int 0, .ref q6, .ref q22, .ref q31, .ref q39, .ref q47, .ref q55, .ref q63, .ref q71, .ref q79, .ref q87, .null, .null])), (q6, .inl (T 0, 2, .inl (upd (upd (fun _ => 0) 0 (nI 1)) 1 (nI 3)))), (q22, .inl (T 0, 20, .inl (fun _ => 0))), (q31, .inl (T 0, 160, .inl (fun _ => 0))), (q39, .inl (T 0, 20, .inl (fun _ => 0))), (q47, .inl (T 0, 20, .inl (fun _ => 0))), (q55, .inl (T 0, 20, .inl (fun _ => 0))), (q63, .inl (T 0, 6, .inl (fun _ => 0))), (q71, .inl (T 0, 6, .inl (fun _ => 0))), (q79, .inl (T 0, 6, .inl (fun _ => 0))), (q87, .inl (T 0, 6, .inl (fun _ => 0))), (q95, .inl (T 0, 6, .inl (upd (upd (upd (upd (upd (fun _ => 0) 0 (-1)) 1 (-1)) 2 (-1)) 3 (-1)) 4 (-1))))]) H := hP
  have hD : va_D A ([(b, .inr (3, [.int 0, .int 0, .int 0, .int 0, .ref q6, .ref q22, .ref q31, .ref q39, .ref q47, .ref q55, .ref q63, .ref q71, .ref q79, .ref q87, .null, .null])), (q6, .inl (T 0, 2, .inl (upd (upd (fun _ => 0) 0 (nI 1)) 1 (nI 3)))), (q22, .inl (T 0, 20, .inl (fun _ => 0))), (q31, .inl (T 0, 160, .inl (fun _ => 0))), (q39, .inl (T 0, 20, .inl (fun _ => 0))), (q47, .inl (T 0, 20, .inl (fun _ => 0))), (q55, .inl (T 0, 20, .inl (fun _ => 0))), (q63, .inl (T 0, 6, .inl (fun _ => 0))), (q71, .inl (T 0, 6, .inl (fun _ => 0))), (q79, .inl (T 0, 6, .inl (fun _ => 0))), (q87, .inl (T 0, 6, .inl (fun _ => 0))), (q95, .inl (T 0, 6, .inl (upd (upd (upd (upd (upd (fun _ => 0) 0 (-1)) 1 (-1)) 2 (-1)) 3 (-1)) 4 (-1))))]) := hD
  refine lv_dup hx hb dX3_init_117 rfl ?_
  refine n_iconst hx hb 5 dX3_init_118 (by decide) ?_
  refine lv_iconst (v := -1) hx hb dX3_init_119 (by decide) ?_
  refine n_iast hx hb hK hP hD hS 11 0 rfl rfl 5 (by decide) (by decide) dX3_init_120 (fun H locs hP hD hS => ?_)
  have hP : va_P G vwCl ([(b, .inr (3, [.int 0, .int 0, .int 0, .int 0, .ref q6, .ref q22, .ref q31, .ref q39, .ref q47, .ref q55, .ref q63, .ref q71, .ref q79, .ref q87, .null, .null])), (q6, .inl (T 0, 2, .inl (upd (upd (fun _ => 0) 0 (nI 1)) 1 (nI 3)))), (q22, .inl (T 0, 20, .inl (fun _ => 0))), (q31, .inl (T 0, 160, .inl (fun _ => 0))), (q39, .inl (T 0, 20, .inl (fun _ => 0))), (q47, .inl (T 0, 20, .inl (fun _ => 0))), (q55, .inl (T 0, 20, .inl (fun _ => 0))), (q63, .inl (T 0, 6, .inl (fun _ => 0))), (q71, .inl (T 0, 6, .inl (fun _ => 0))), (q79, .inl (T 0, 6, .inl (fun _ => 0))), (q87, .inl (T 0, 6, .inl (fun _ => 0))), (q95, .inl (T 0, 6, .inl (upd (upd (upd (upd (upd (upd (fun _ => 0) 0 (-1)) 1 (-1)) 2 (-1)) 3 (-1)) 4 (-1)) 5 (-1))))]) H := hP
  have hD : va_D A ([(b, .inr (3, [.int 0, .int 0, .int 0, .int 0, .ref q6, .ref q22, .ref q31, .ref q39, .ref q47, .ref q55, .ref q63, .ref q71, .ref q79, .ref q87, .null, .null])), (q6, .inl (T 0, 2, .inl (upd (upd (fun _ => 0) 0 (nI 1)) 1 (nI 3)))), (q22, .inl (T 0, 20, .inl (fun _ => 0))), (q31, .inl (T 0, 160, .inl (fun _ => 0))), (q39, .inl (T 0, 20, .inl (fun _ => 0))), (q47, .inl (T 0, 20, .inl (fun _ => 0))), (q55, .inl (T 0, 20, .inl (fun _ => 0))), (q63, .inl (T 0, 6, .inl (fun _ => 0))), (q71, .inl (T 0, 6, .inl (fun _ => 0))), (q79, .inl (T 0, 6, .inl (fun _ => 0))), (q87, .inl (T 0, 6, .inl (fun _ => 0))), (q95, .inl (T 0, 6, .inl (upd (upd (upd (upd (upd (upd (fun _ => 0) 0 (-1)) 1 (-1)) 2 (-1)) 3 (-1)) 4 (-1)) 5 (-1))))]) := hD
  refine va_putF (D := G) (ci := 3) (v := .ref q95) (ty := .array .int) (C := RX3) (T := TX3) (N := 16) hx hb hts hinX3 tyX3 tyX3_ok nmX3 hown hK hP hD hS 0 rfl rfl 14 (by decide) (hts (.fieldLink RX3 42 "WhistleTunes$School" "latestWhistle" "[I") (by decide +kernel)) (fun _ h9 => h9) rfl hin2 rfl (by decide +kernel) rfl rfl (Nat.le_of_ble_eq_true rfl) dX3_init_121 (fun H locs hP hD hS => ?_)
  have hP : va_P G vwCl ([(b, .inr (3, [.int 0, .int 0, .int 0, .int 0, .ref q6, .ref q22, .ref q31, .ref q39, .ref q47, .ref q55, .ref q63, .ref q71, .ref q79, .ref q87, .ref q95, .null])), (q6, .inl (T 0, 2, .inl (upd (upd (fun _ => 0) 0 (nI 1)) 1 (nI 3)))), (q22, .inl (T 0, 20, .inl (fun _ => 0))), (q31, .inl (T 0, 160, .inl (fun _ => 0))), (q39, .inl (T 0, 20, .inl (fun _ => 0))), (q47, .inl (T 0, 20, .inl (fun _ => 0))), (q55, .inl (T 0, 20, .inl (fun _ => 0))), (q63, .inl (T 0, 6, .inl (fun _ => 0))), (q71, .inl (T 0, 6, .inl (fun _ => 0))), (q79, .inl (T 0, 6, .inl (fun _ => 0))), (q87, .inl (T 0, 6, .inl (fun _ => 0))), (q95, .inl (T 0, 6, .inl (upd (upd (upd (upd (upd (upd (fun _ => 0) 0 (-1)) 1 (-1)) 2 (-1)) 3 (-1)) 4 (-1)) 5 (-1))))]) H := hP
  have hD : va_D A ([(b, .inr (3, [.int 0, .int 0, .int 0, .int 0, .ref q6, .ref q22, .ref q31, .ref q39, .ref q47, .ref q55, .ref q63, .ref q71, .ref q79, .ref q87, .ref q95, .null])), (q6, .inl (T 0, 2, .inl (upd (upd (fun _ => 0) 0 (nI 1)) 1 (nI 3)))), (q22, .inl (T 0, 20, .inl (fun _ => 0))), (q31, .inl (T 0, 160, .inl (fun _ => 0))), (q39, .inl (T 0, 20, .inl (fun _ => 0))), (q47, .inl (T 0, 20, .inl (fun _ => 0))), (q55, .inl (T 0, 20, .inl (fun _ => 0))), (q63, .inl (T 0, 6, .inl (fun _ => 0))), (q71, .inl (T 0, 6, .inl (fun _ => 0))), (q79, .inl (T 0, 6, .inl (fun _ => 0))), (q87, .inl (T 0, 6, .inl (fun _ => 0))), (q95, .inl (T 0, 6, .inl (upd (upd (upd (upd (upd (upd (fun _ => 0) 0 (-1)) 1 (-1)) 2 (-1)) 3 (-1)) 4 (-1)) 5 (-1))))]) := hD
  refine lv_aload_n hx hb dX3_init_124 rfl (lv_at hl 0 rfl) ?_
  refine n_iconst hx hb 2 dX3_init_125 (by decide) ?_
  refine n_newa (atype := .int) (ty := .int) hx hb (hts (.arrayClass .int) (by decide +kernel)) rfl 0 rfl hK hP hD hS hA 2 (a0 := (2, .inl (fun _ => 0))) (fun _ => rfl) (by decide) (Nat.le_of_ble_eq_true rfl) (Nat.le_of_ble_eq_true rfl) (Nat.le_of_ble_eq_true rfl) dX3_init_126 (fun q126 H hP hD hS => ?_)
  have hP : va_P G vwCl ([(b, .inr (3, [.int 0, .int 0, .int 0, .int 0, .ref q6, .ref q22, .ref q31, .ref q39, .ref q47, .ref q55, .ref q63, .ref q71, .ref q79, .ref q87, .ref q95, .null])), (q6, .inl (T 0, 2, .inl (upd (upd (fun _ => 0) 0 (nI 1)) 1 (nI 3)))), (q22, .inl (T 0, 20, .inl (fun _ => 0))), (q31, .inl (T 0, 160, .inl (fun _ => 0))), (q39, .inl (T 0, 20, .inl (fun _ => 0))), (q47, .inl (T 0, 20, .inl (fun _ => 0))), (q55, .inl (T 0, 20, .inl (fun _ => 0))), (q63, .inl (T 0, 6, .inl (fun _ => 0))), (q71, .inl (T 0, 6, .inl (fun _ => 0))), (q79, .inl (T 0, 6, .inl (fun _ => 0))), (q87, .inl (T 0, 6, .inl (fun _ => 0))), (q95, .inl (T 0, 6, .inl (upd (upd (upd (upd (upd (upd (fun _ => 0) 0 (-1)) 1 (-1)) 2 (-1)) 3 (-1)) 4 (-1)) 5 (-1)))), (q126, .inl (T 0, 2, .inl (fun _ => 0)))]) H := hP
  have hD : va_D A ([(b, .inr (3, [.int 0, .int 0, .int 0, .int 0, .ref q6, .ref q22, .ref q31, .ref q39, .ref q47, .ref q55, .ref q63, .ref q71, .ref q79, .ref q87, .ref q95, .null])), (q6, .inl (T 0, 2, .inl (upd (upd (fun _ => 0) 0 (nI 1)) 1 (nI 3)))), (q22, .inl (T 0, 20, .inl (fun _ => 0))), (q31, .inl (T 0, 160, .inl (fun _ => 0))), (q39, .inl (T 0, 20, .inl (fun _ => 0))), (q47, .inl (T 0, 20, .inl (fun _ => 0))), (q55, .inl (T 0, 20, .inl (fun _ => 0))), (q63, .inl (T 0, 6, .inl (fun _ => 0))), (q71, .inl (T 0, 6, .inl (fun _ => 0))), (q79, .inl (T 0, 6, .inl (fun _ => 0))), (q87, .inl (T 0, 6, .inl (fun _ => 0))), (q95, .inl (T 0, 6, .inl (upd (upd (upd (upd (upd (upd (fun _ => 0) 0 (-1)) 1 (-1)) 2 (-1)) 3 (-1)) 4 (-1)) 5 (-1)))), (q126, .inl (T 0, 2, .inl (fun _ => 0)))]) := hD
  refine lv_dup hx hb dX3_init_128 rfl ?_
  refine n_iconst hx hb 0 dX3_init_129 (by decide) ?_
  refine lv_iconst (v := -1) hx hb dX3_init_130 (by decide) ?_
  refine n_iast hx hb hK hP hD hS 12 0 rfl rfl 0 (by decide) (by decide) dX3_init_131 (fun H locs hP hD hS => ?_)
  have hP : va_P G vwCl ([(b, .inr (3, [.int 0, .int 0, .int 0, .int 0, .ref q6, .ref q22, .ref q31, .ref q39, .ref q47, .ref q55, .ref q63, .ref q71, .ref q79, .ref q87, .ref q95, .null])), (q6, .inl (T 0, 2, .inl (upd (upd (fun _ => 0) 0 (nI 1)) 1 (nI 3)))), (q22, .inl (T 0, 20, .inl (fun _ => 0))), (q31, .inl (T 0, 160, .inl (fun _ => 0))), (q39, .inl (T 0, 20, .inl (fun _ => 0))), (q47, .inl (T 0, 20, .inl (fun _ => 0))), (q55, .inl (T 0, 20, .inl (fun _ => 0))), (q63, .inl (T 0, 6, .inl (fun _ => 0))), (q71, .inl (T 0, 6, .inl (fun _ => 0))), (q79, .inl (T 0, 6, .inl (fun _ => 0))), (q87, .inl (T 0, 6, .inl (fun _ => 0))), (q95, .inl (T 0, 6, .inl (upd (upd (upd (upd (upd (upd (fun _ => 0) 0 (-1)) 1 (-1)) 2 (-1)) 3 (-1)) 4 (-1)) 5 (-1)))), (q126, .inl (T 0, 2, .inl (upd (fun _ => 0) 0 (-1))))]) H := hP
  have hD : va_D A ([(b, .inr (3, [.int 0, .int 0, .int 0, .int 0, .ref q6, .ref q22, .ref q31, .ref q39, .ref q47, .ref q55, .ref q63, .ref q71, .ref q79, .ref q87, .ref q95, .null])), (q6, .inl (T 0, 2, .inl (upd (upd (fun _ => 0) 0 (nI 1)) 1 (nI 3)))), (q22, .inl (T 0, 20, .inl (fun _ => 0))), (q31, .inl (T 0, 160, .inl (fun _ => 0))), (q39, .inl (T 0, 20, .inl (fun _ => 0))), (q47, .inl (T 0, 20, .inl (fun _ => 0))), (q55, .inl (T 0, 20, .inl (fun _ => 0))), (q63, .inl (T 0, 6, .inl (fun _ => 0))), (q71, .inl (T 0, 6, .inl (fun _ => 0))), (q79, .inl (T 0, 6, .inl (fun _ => 0))), (q87, .inl (T 0, 6, .inl (fun _ => 0))), (q95, .inl (T 0, 6, .inl (upd (upd (upd (upd (upd (upd (fun _ => 0) 0 (-1)) 1 (-1)) 2 (-1)) 3 (-1)) 4 (-1)) 5 (-1)))), (q126, .inl (T 0, 2, .inl (upd (fun _ => 0) 0 (-1))))]) := hD
  refine lv_dup hx hb dX3_init_132 rfl ?_
  refine n_iconst hx hb 1 dX3_init_133 (by decide) ?_
  refine lv_iconst (v := -1) hx hb dX3_init_134 (by decide) ?_
  refine n_iast hx hb hK hP hD hS 12 0 rfl rfl 1 (by decide) (by decide) dX3_init_135 (fun H locs hP hD hS => ?_)
  have hP : va_P G vwCl ([(b, .inr (3, [.int 0, .int 0, .int 0, .int 0, .ref q6, .ref q22, .ref q31, .ref q39, .ref q47, .ref q55, .ref q63, .ref q71, .ref q79, .ref q87, .ref q95, .null])), (q6, .inl (T 0, 2, .inl (upd (upd (fun _ => 0) 0 (nI 1)) 1 (nI 3)))), (q22, .inl (T 0, 20, .inl (fun _ => 0))), (q31, .inl (T 0, 160, .inl (fun _ => 0))), (q39, .inl (T 0, 20, .inl (fun _ => 0))), (q47, .inl (T 0, 20, .inl (fun _ => 0))), (q55, .inl (T 0, 20, .inl (fun _ => 0))), (q63, .inl (T 0, 6, .inl (fun _ => 0))), (q71, .inl (T 0, 6, .inl (fun _ => 0))), (q79, .inl (T 0, 6, .inl (fun _ => 0))), (q87, .inl (T 0, 6, .inl (fun _ => 0))), (q95, .inl (T 0, 6, .inl (upd (upd (upd (upd (upd (upd (fun _ => 0) 0 (-1)) 1 (-1)) 2 (-1)) 3 (-1)) 4 (-1)) 5 (-1)))), (q126, .inl (T 0, 2, .inl (upd (upd (fun _ => 0) 0 (-1)) 1 (-1))))]) H := hP
  have hD : va_D A ([(b, .inr (3, [.int 0, .int 0, .int 0, .int 0, .ref q6, .ref q22, .ref q31, .ref q39, .ref q47, .ref q55, .ref q63, .ref q71, .ref q79, .ref q87, .ref q95, .null])), (q6, .inl (T 0, 2, .inl (upd (upd (fun _ => 0) 0 (nI 1)) 1 (nI 3)))), (q22, .inl (T 0, 20, .inl (fun _ => 0))), (q31, .inl (T 0, 160, .inl (fun _ => 0))), (q39, .inl (T 0, 20, .inl (fun _ => 0))), (q47, .inl (T 0, 20, .inl (fun _ => 0))), (q55, .inl (T 0, 20, .inl (fun _ => 0))), (q63, .inl (T 0, 6, .inl (fun _ => 0))), (q71, .inl (T 0, 6, .inl (fun _ => 0))), (q79, .inl (T 0, 6, .inl (fun _ => 0))), (q87, .inl (T 0, 6, .inl (fun _ => 0))), (q95, .inl (T 0, 6, .inl (upd (upd (upd (upd (upd (upd (fun _ => 0) 0 (-1)) 1 (-1)) 2 (-1)) 3 (-1)) 4 (-1)) 5 (-1)))), (q126, .inl (T 0, 2, .inl (upd (upd (fun _ => 0) 0 (-1)) 1 (-1))))]) := hD
  refine va_putF (D := G) (ci := 3) (v := .ref q126) (ty := .array .int) (C := RX3) (T := TX3) (N := 16) hx hb hts hinX3 tyX3 tyX3_ok nmX3 hown hK hP hD hS 0 rfl rfl 15 (by decide) (hts (.fieldLink RX3 45 "WhistleTunes$School" "latestStop" "[I") (by decide +kernel)) (fun _ h9 => h9) rfl hin2 rfl (by decide +kernel) rfl rfl (Nat.le_of_ble_eq_true rfl) dX3_init_136 (fun H locs hP hD hS => ?_)
  have hP : va_P G vwCl ([(b, .inr (3, [.int 0, .int 0, .int 0, .int 0, .ref q6, .ref q22, .ref q31, .ref q39, .ref q47, .ref q55, .ref q63, .ref q71, .ref q79, .ref q87, .ref q95, .ref q126])), (q6, .inl (T 0, 2, .inl (upd (upd (fun _ => 0) 0 (nI 1)) 1 (nI 3)))), (q22, .inl (T 0, 20, .inl (fun _ => 0))), (q31, .inl (T 0, 160, .inl (fun _ => 0))), (q39, .inl (T 0, 20, .inl (fun _ => 0))), (q47, .inl (T 0, 20, .inl (fun _ => 0))), (q55, .inl (T 0, 20, .inl (fun _ => 0))), (q63, .inl (T 0, 6, .inl (fun _ => 0))), (q71, .inl (T 0, 6, .inl (fun _ => 0))), (q79, .inl (T 0, 6, .inl (fun _ => 0))), (q87, .inl (T 0, 6, .inl (fun _ => 0))), (q95, .inl (T 0, 6, .inl (upd (upd (upd (upd (upd (upd (fun _ => 0) 0 (-1)) 1 (-1)) 2 (-1)) 3 (-1)) 4 (-1)) 5 (-1)))), (q126, .inl (T 0, 2, .inl (upd (upd (fun _ => 0) 0 (-1)) 1 (-1))))]) H := hP
  have hD : va_D A ([(b, .inr (3, [.int 0, .int 0, .int 0, .int 0, .ref q6, .ref q22, .ref q31, .ref q39, .ref q47, .ref q55, .ref q63, .ref q71, .ref q79, .ref q87, .ref q95, .ref q126])), (q6, .inl (T 0, 2, .inl (upd (upd (fun _ => 0) 0 (nI 1)) 1 (nI 3)))), (q22, .inl (T 0, 20, .inl (fun _ => 0))), (q31, .inl (T 0, 160, .inl (fun _ => 0))), (q39, .inl (T 0, 20, .inl (fun _ => 0))), (q47, .inl (T 0, 20, .inl (fun _ => 0))), (q55, .inl (T 0, 20, .inl (fun _ => 0))), (q63, .inl (T 0, 6, .inl (fun _ => 0))), (q71, .inl (T 0, 6, .inl (fun _ => 0))), (q79, .inl (T 0, 6, .inl (fun _ => 0))), (q87, .inl (T 0, 6, .inl (fun _ => 0))), (q95, .inl (T 0, 6, .inl (upd (upd (upd (upd (upd (upd (fun _ => 0) 0 (-1)) 1 (-1)) 2 (-1)) 3 (-1)) 4 (-1)) 5 (-1)))), (q126, .inl (T 0, 2, .inl (upd (upd (fun _ => 0) 0 (-1)) 1 (-1))))]) := hD
  subst hQ
  exact W.vret hx hb hr (fun t ht _ => ⟨⟨(fun k => if k = 16 then q126 else if k = 15 then q95 else if k = 14 then q87 else if k = 13 then q79 else if k = 12 then q71 else if k = 11 then q63 else if k = 10 then q55 else if k = 9 then q47 else if k = 8 then q39 else if k = 7 then q31 else if k = 6 then q22 else if k = 5 then q6 else b), rfl, rfl, by rw [ht]; exact hP, hD⟩, hS.F ht⟩) hS.2.2 dX3_init_139 hlocks
def iZX5 : Nat → Nat → Int32 := fun _ _ => 0
set_option maxHeartbeats 8000000 in
set_option maxRecDepth 100000 in
theorem c_X5_init (l : Launch) (G : va_G) (T : Nat → ClassId) (sz b : Nat) : RWn l yX5_init wsX5_init 1 1 60 G T sz [(b, .inr (5, [.null, .int 0]))] [.ref b] (fun u : Nat → Nat => u 0 = b) (fun u => oX5 T u iZX5) := by
  refine Met.ofW (cc := cX5_init) (maxL := 1) (ret := none) (by decide) rfl ?_
  intro p e s m args below meth c s₁ B hml hv
  obtain ⟨ha, ⟨hsz, hP, hK, hD0, hE0⟩, hO⟩ := hv
  have hx := B.exec
  have hb := B.bytes
  have hr := B.returns
  have hlocks := B.notSynchronized
  have hin2 : meth.name = "<init>" := (name_of_methodNamed B.named B.method).1
  have hts := atoms_spec (ws := wsX5_init) B.pre
  have hown : s.vm.findClass RX5 = some m.cls := findClass_of_methodNamed B.named
  have cx : CallFix p m c cX5_init 1 s args wsX5_init RX5 := ⟨hx, hb, hml, hown, hts⟩
  subst hsz
  have hD := hD0.self (sz := s.heap.size)
  generalize hAe : va_A [(b, .inr (5, [.null, .int 0]))] s.heap.size = A at hD hE0 ⊢
  have hE : gE A s s.heap := hE0
  have hA : ∀ q : Nat, s.heap.size ≤ q → A q := fun q h => by rw [← hAe]; exact Or.inr h
  have hS : va_S A s.heap s.heap [] := va_S.rf
  have hinX5 : ∀ w ∈ wsX50, w ∈ wsX5_init := by decide +kernel
  refine w_entry ha (Nat.le_of_ble_eq_true rfl) (fun ls hl => ?_)
  refine w_q (fun Q0 hQ => ?_)
  have hl : lv_has ls 1 [(0, .ref b)] := hl
  refine w_h (fun H locs hHe hLe => ?_)
  have hP : va_P G vwCl [(b, .inr (5, [.null, .int 0]))] H := by rw [hHe]; exact hP
  have hS : va_S A s.heap H locs := by rw [hHe, hLe]; exact hS
  refine lv_aload_n hx hb dX5_init_0 rfl (lv_at hl 0 rfl) ?_
  refine W.objInit hx hb hown (hts (.methodLink RX5 3 objectInit) (by decide +kernel)) (hts (.instanceMethod objectInit) (by decide +kernel)) (hts _ (List.mem_of_getElem? (i := 3) rfl)) rfl (by rw [hml]; exact hl.1) rfl dX5_init_1 (Nat.le_of_ble_eq_true rfl) (Nat.le_of_ble_eq_true rfl) ?_
  refine W.eq (g2 := F0 m 4 ls []) rfl ?_
  refine lv_aload_n hx hb dX5_init_4 rfl (lv_at hl 0 rfl) ?_
  refine lv_bipush (v := nI 60) hx hb dX5_init_5 (by decide) ?_
  refine n_newa (atype := .char) (ty := .char) hx hb (hts (.arrayClass .char) (by decide +kernel)) rfl 1 rfl hK hP hD hS hA 60 (a0 := (60, .inl (fun _ => 0))) (fun _ => rfl) (by decide) (Nat.le_of_ble_eq_true rfl) (Nat.le_of_ble_eq_true rfl) (Nat.le_of_ble_eq_true rfl) dX5_init_7 (fun q7 H hP hD hS => ?_)
  have hP : va_P G vwCl ([(b, .inr (5, [.null, .int 0])), (q7, .inl (T 1, 60, .inl (fun _ => 0)))]) H := hP
  have hD : va_D A ([(b, .inr (5, [.null, .int 0])), (q7, .inl (T 1, 60, .inl (fun _ => 0)))]) := hD
  refine va_putF (D := G) (ci := 5) (v := .ref q7) (ty := .array .char) (C := RX5) (T := TX5) (N := 2) hx hb hts hinX5 tyX5 tyX5_ok nmX5 hown hK hP hD hS 0 rfl rfl 0 (by decide) (hts (.fieldLink RX5 9 "WhistleTunes$Text" "codes" "[C") (by decide +kernel)) (fun _ h9 => h9) rfl hin2 rfl (by decide +kernel) rfl rfl (Nat.le_of_ble_eq_true rfl) dX5_init_9 (fun H locs hP hD hS => ?_)
  have hP : va_P G vwCl ([(b, .inr (5, [.ref q7, .int 0])), (q7, .inl (T 1, 60, .inl (fun _ => 0)))]) H := hP
  have hD : va_D A ([(b, .inr (5, [.ref q7, .int 0])), (q7, .inl (T 1, 60, .inl (fun _ => 0)))]) := hD
  subst hQ
  exact W.vret hx hb hr (fun t ht _ => ⟨⟨(fun k => if k = 1 then q7 else b), rfl, rfl, by rw [ht]; exact hP, hD⟩, hS.F ht⟩) hS.2.2 dX5_init_12 hlocks
def iZX0 : Nat → Nat → Int32 := fun _ _ => 0
set_option maxHeartbeats 8000000 in
set_option maxRecDepth 100000 in
theorem c_X0_init (l : Launch) (G : va_G) (T : Nat → ClassId) (sz b : Nat) : RWn l yX0_init wsX0_init 1 0 0 G T sz [(b, .inr (0, [.int 0, .int 0, .int 0]))] [.ref b] (fun u : Nat → Nat => u 0 = b) (fun u => oX0 T u iZX0) := by
  refine Met.ofW (cc := cX0_init) (maxL := 1) (ret := none) (by decide) rfl ?_
  intro p e s m args below meth c s₁ B hml hv
  obtain ⟨ha, ⟨hsz, hP, hK, hD0, hE0⟩, hO⟩ := hv
  have hx := B.exec
  have hb := B.bytes
  have hr := B.returns
  have hlocks := B.notSynchronized
  have hin2 : meth.name = "<init>" := (name_of_methodNamed B.named B.method).1
  have hts := atoms_spec (ws := wsX0_init) B.pre
  have hown : s.vm.findClass RX0 = some m.cls := findClass_of_methodNamed B.named
  have cx : CallFix p m c cX0_init 1 s args wsX0_init RX0 := ⟨hx, hb, hml, hown, hts⟩
  subst hsz
  have hD := hD0.self (sz := s.heap.size)
  generalize hAe : va_A [(b, .inr (0, [.int 0, .int 0, .int 0]))] s.heap.size = A at hD hE0 ⊢
  have hE : gE A s s.heap := hE0
  have hA : ∀ q : Nat, s.heap.size ≤ q → A q := fun q h => by rw [← hAe]; exact Or.inr h
  have hS : va_S A s.heap s.heap [] := va_S.rf
  refine w_entry ha (Nat.le_of_ble_eq_true rfl) (fun ls hl => ?_)
  refine w_q (fun Q0 hQ => ?_)
  have hl : lv_has ls 1 [(0, .ref b)] := hl
  refine w_h (fun H locs hHe hLe => ?_)
  have hP : va_P G vwCl [(b, .inr (0, [.int 0, .int 0, .int 0]))] H := by rw [hHe]; exact hP
  have hS : va_S A s.heap H locs := by rw [hHe, hLe]; exact hS
  refine lv_aload_n hx hb dX0_init_0 rfl (lv_at hl 0 rfl) ?_
  refine W.objInit hx hb hown (hts (.methodLink RX0 3 objectInit) (by decide +kernel)) (hts (.instanceMethod objectInit) (by decide +kernel)) (hts _ (List.mem_of_getElem? (i := 3) rfl)) rfl (by rw [hml]; exact hl.1) rfl dX0_init_1 (Nat.le_of_ble_eq_true rfl) (Nat.le_of_ble_eq_true rfl) ?_
  refine W.eq (g2 := F0 m 4 ls []) rfl ?_
  subst hQ
  exact W.vret hx hb hr (fun t ht _ => ⟨⟨(fun k => b), rfl, rfl, by rw [ht]; exact hP, hD⟩, hS.F ht⟩) hS.2.2 dX0_init_4 hlocks
def iZX6 : Nat → Nat → Int32 := fun _ _ => 0
set_option maxHeartbeats 8000000 in
set_option maxRecDepth 100000 in
theorem c_X6_init (l : Launch) (G : va_G) (T : Nat → ClassId) (sz b : Nat) : RWn l yX6_init wsX6_init 1 2 12 G T sz [(b, .inr (6, [.null, .null, .int 0]))] [.ref b] (fun u : Nat → Nat => u 0 = b) (fun u => oX6 T u iZX6) := by
  refine Met.ofW (cc := cX6_init) (maxL := 1) (ret := none) (by decide) rfl ?_
  intro p e s m args below meth c s₁ B hml hv
  obtain ⟨ha, ⟨hsz, hP, hK, hD0, hE0⟩, hO⟩ := hv
  have hx := B.exec
  have hb := B.bytes
  have hr := B.returns
  have hlocks := B.notSynchronized
  have hin2 : meth.name = "<init>" := (name_of_methodNamed B.named B.method).1
  have hts := atoms_spec (ws := wsX6_init) B.pre
  have hown : s.vm.findClass RX6 = some m.cls := findClass_of_methodNamed B.named
  have cx : CallFix p m c cX6_init 1 s args wsX6_init RX6 := ⟨hx, hb, hml, hown, hts⟩
  subst hsz
  have hD := hD0.self (sz := s.heap.size)
  generalize hAe : va_A [(b, .inr (6, [.null, .null, .int 0]))] s.heap.size = A at hD hE0 ⊢
  have hE : gE A s s.heap := hE0
  have hA : ∀ q : Nat, s.heap.size ≤ q → A q := fun q h => by rw [← hAe]; exact Or.inr h
  have hS : va_S A s.heap s.heap [] := va_S.rf
  have hinX6 : ∀ w ∈ wsX60, w ∈ wsX6_init := by decide +kernel
  refine w_entry ha (Nat.le_of_ble_eq_true rfl) (fun ls hl => ?_)
  refine w_q (fun Q0 hQ => ?_)
  have hl : lv_has ls 1 [(0, .ref b)] := hl
  refine w_h (fun H locs hHe hLe => ?_)
  have hP : va_P G vwCl [(b, .inr (6, [.null, .null, .int 0]))] H := by rw [hHe]; exact hP
  have hS : va_S A s.heap H locs := by rw [hHe, hLe]; exact hS
  refine lv_aload_n hx hb dX6_init_0 rfl (lv_at hl 0 rfl) ?_
  refine W.objInit hx hb hown (hts (.methodLink RX6 3 objectInit) (by decide +kernel)) (hts (.instanceMethod objectInit) (by decide +kernel)) (hts _ (List.mem_of_getElem? (i := 3) rfl)) rfl (by rw [hml]; exact hl.1) rfl dX6_init_1 (Nat.le_of_ble_eq_true rfl) (Nat.le_of_ble_eq_true rfl) ?_
  refine W.eq (g2 := F0 m 4 ls []) rfl ?_
  refine lv_aload_n hx hb dX6_init_4 rfl (lv_at hl 0 rfl) ?_
  refine lv_bipush (v := nI 9) hx hb dX6_init_5 (by decide) ?_
  refine n_newa (atype := .int) (ty := .int) hx hb (hts (.arrayClass .int) (by decide +kernel)) rfl 0 rfl hK hP hD hS hA 9 (a0 := (9, .inl (fun _ => 0))) (fun _ => rfl) (by decide) (Nat.le_of_ble_eq_true rfl) (Nat.le_of_ble_eq_true rfl) (Nat.le_of_ble_eq_true rfl) dX6_init_7 (fun q7 H hP hD hS => ?_)
  have hP : va_P G vwCl ([(b, .inr (6, [.null, .null, .int 0])), (q7, .inl (T 0, 9, .inl (fun _ => 0)))]) H := hP
  have hD : va_D A ([(b, .inr (6, [.null, .null, .int 0])), (q7, .inl (T 0, 9, .inl (fun _ => 0)))]) := hD
  refine va_putF (D := G) (ci := 6) (v := .ref q7) (ty := .array .int) (C := RX6) (T := TX6) (N := 3) hx hb hts hinX6 tyX6 tyX6_ok nmX6 hown hK hP hD hS 0 rfl rfl 0 (by decide) (hts (.fieldLink RX6 11 "WhistleTunes$Tune" "notes" "[I") (by decide +kernel)) (fun _ h9 => h9) rfl hin2 rfl (by decide +kernel) rfl rfl (Nat.le_of_ble_eq_true rfl) dX6_init_9 (fun H locs hP hD hS => ?_)
  have hP : va_P G vwCl ([(b, .inr (6, [.ref q7, .null, .int 0])), (q7, .inl (T 0, 9, .inl (fun _ => 0)))]) H := hP
  have hD : va_D A ([(b, .inr (6, [.ref q7, .null, .int 0])), (q7, .inl (T 0, 9, .inl (fun _ => 0)))]) := hD
  refine lv_aload_n hx hb dX6_init_12 rfl (lv_at hl 0 rfl) ?_
  refine n_iconst hx hb 3 dX6_init_13 (by decide) ?_
  refine n_newa (atype := .int) (ty := .int) hx hb (hts (.arrayClass .int) (by decide +kernel)) rfl 0 rfl hK hP hD hS hA 3 (a0 := (3, .inl (fun _ => 0))) (fun _ => rfl) (by decide) (Nat.le_of_ble_eq_true rfl) (Nat.le_of_ble_eq_true rfl) (Nat.le_of_ble_eq_true rfl) dX6_init_14 (fun q14 H hP hD hS => ?_)
  have hP : va_P G vwCl ([(b, .inr (6, [.ref q7, .null, .int 0])), (q7, .inl (T 0, 9, .inl (fun _ => 0))), (q14, .inl (T 0, 3, .inl (fun _ => 0)))]) H := hP
  have hD : va_D A ([(b, .inr (6, [.ref q7, .null, .int 0])), (q7, .inl (T 0, 9, .inl (fun _ => 0))), (q14, .inl (T 0, 3, .inl (fun _ => 0)))]) := hD
  refine va_putF (D := G) (ci := 6) (v := .ref q14) (ty := .array .int) (C := RX6) (T := TX6) (N := 3) hx hb hts hinX6 tyX6 tyX6_ok nmX6 hown hK hP hD hS 0 rfl rfl 1 (by decide) (hts (.fieldLink RX6 15 "WhistleTunes$Tune" "groupStarts" "[I") (by decide +kernel)) (fun _ h9 => h9) rfl hin2 rfl (by decide +kernel) rfl rfl (Nat.le_of_ble_eq_true rfl) dX6_init_16 (fun H locs hP hD hS => ?_)
  have hP : va_P G vwCl ([(b, .inr (6, [.ref q7, .ref q14, .int 0])), (q7, .inl (T 0, 9, .inl (fun _ => 0))), (q14, .inl (T 0, 3, .inl (fun _ => 0)))]) H := hP
  have hD : va_D A ([(b, .inr (6, [.ref q7, .ref q14, .int 0])), (q7, .inl (T 0, 9, .inl (fun _ => 0))), (q14, .inl (T 0, 3, .inl (fun _ => 0)))]) := hD
  subst hQ
  exact W.vret hx hb hr (fun t ht _ => ⟨⟨(fun k => if k = 2 then q14 else if k = 1 then q7 else b), rfl, rfl, by rw [ht]; exact hP, hD⟩, hS.F ht⟩) hS.2.2 dX6_init_19 hlocks
def iZX4 : Nat → Nat → Int32 := fun _ _ => 0
set_option maxHeartbeats 8000000 in
set_option maxRecDepth 100000 in
theorem c_X4_init (l : Launch) (G : va_G) (T : Nat → ClassId) (sz b : Nat) : RWn l yX4_init wsX4_init 1 2 1288 G T sz [(b, .inr (4, [.null, .null, .int 0]))] [.ref b] (fun u : Nat → Nat => u 0 = b) (fun u => oX4 T u iZX4) := by
  refine Met.ofW (cc := cX4_init) (maxL := 1) (ret := none) (by decide) rfl ?_
  intro p e s m args below meth c s₁ B hml hv
  obtain ⟨ha, ⟨hsz, hP, hK, hD0, hE0⟩, hO⟩ := hv
  have hx := B.exec
  have hb := B.bytes
  have hr := B.returns
  have hlocks := B.notSynchronized
  have hin2 : meth.name = "<init>" := (name_of_methodNamed B.named B.method).1
  have hts := atoms_spec (ws := wsX4_init) B.pre
  have hown : s.vm.findClass RX4 = some m.cls := findClass_of_methodNamed B.named
  have cx : CallFix p m c cX4_init 1 s args wsX4_init RX4 := ⟨hx, hb, hml, hown, hts⟩
  subst hsz
  have hD := hD0.self (sz := s.heap.size)
  generalize hAe : va_A [(b, .inr (4, [.null, .null, .int 0]))] s.heap.size = A at hD hE0 ⊢
  have hE : gE A s s.heap := hE0
  have hA : ∀ q : Nat, s.heap.size ≤ q → A q := fun q h => by rw [← hAe]; exact Or.inr h
  have hS : va_S A s.heap s.heap [] := va_S.rf
  have hinX4 : ∀ w ∈ wsX40, w ∈ wsX4_init := by decide +kernel
  refine w_entry ha (Nat.le_of_ble_eq_true rfl) (fun ls hl => ?_)
  refine w_q (fun Q0 hQ => ?_)
  have hl : lv_has ls 1 [(0, .ref b)] := hl
  refine w_h (fun H locs hHe hLe => ?_)
  have hP : va_P G vwCl [(b, .inr (4, [.null, .null, .int 0]))] H := by rw [hHe]; exact hP
  have hS : va_S A s.heap H locs := by rw [hHe, hLe]; exact hS
  refine lv_aload_n hx hb dX4_init_0 rfl (lv_at hl 0 rfl) ?_
  refine W.objInit hx hb hown (hts (.methodLink RX4 3 objectInit) (by decide +kernel)) (hts (.instanceMethod objectInit) (by decide +kernel)) (hts _ (List.mem_of_getElem? (i := 3) rfl)) rfl (by rw [hml]; exact hl.1) rfl dX4_init_1 (Nat.le_of_ble_eq_true rfl) (Nat.le_of_ble_eq_true rfl) ?_
  refine W.eq (g2 := F0 m 4 ls []) rfl ?_
  refine lv_aload_n hx hb dX4_init_4 rfl (lv_at hl 0 rfl) ?_
  refine lv_sipush (v := nI 1127) hx hb dX4_init_5 (by decide) ?_
  refine n_newa (atype := .int) (ty := .int) hx hb (hts (.arrayClass .int) (by decide +kernel)) rfl 0 rfl hK hP hD hS hA 1127 (a0 := (1127, .inl (fun _ => 0))) (fun _ => rfl) (by decide) (Nat.le_of_ble_eq_true rfl) (Nat.le_of_ble_eq_true rfl) (Nat.le_of_ble_eq_true rfl) dX4_init_8 (fun q8 H hP hD hS => ?_)
  have hP : va_P G vwCl ([(b, .inr (4, [.null, .null, .int 0])), (q8, .inl (T 0, 1127, .inl (fun _ => 0)))]) H := hP
  have hD : va_D A ([(b, .inr (4, [.null, .null, .int 0])), (q8, .inl (T 0, 1127, .inl (fun _ => 0)))]) := hD
  refine va_putF (D := G) (ci := 4) (v := .ref q8) (ty := .array .int) (C := RX4) (T := TX4) (N := 3) hx hb hts hinX4 tyX4 tyX4_ok nmX4 hown hK hP hD hS 0 rfl rfl 0 (by decide) (hts (.fieldLink RX4 11 "WhistleTunes$ShapeTree" "children" "[I") (by decide +kernel)) (fun _ h9 => h9) rfl hin2 rfl (by decide +kernel) rfl rfl (Nat.le_of_ble_eq_true rfl) dX4_init_10 (fun H locs hP hD hS => ?_)
  have hP : va_P G vwCl ([(b, .inr (4, [.ref q8, .null, .int 0])), (q8, .inl (T 0, 1127, .inl (fun _ => 0)))]) H := hP
  have hD : va_D A ([(b, .inr (4, [.ref q8, .null, .int 0])), (q8, .inl (T 0, 1127, .inl (fun _ => 0)))]) := hD
  refine lv_aload_n hx hb dX4_init_13 rfl (lv_at hl 0 rfl) ?_
  refine lv_sipush (v := nI 161) hx hb dX4_init_14 (by decide) ?_
  refine n_newa (atype := .int) (ty := .int) hx hb (hts (.arrayClass .int) (by decide +kernel)) rfl 0 rfl hK hP hD hS hA 161 (a0 := (161, .inl (fun _ => 0))) (fun _ => rfl) (by decide) (Nat.le_of_ble_eq_true rfl) (Nat.le_of_ble_eq_true rfl) (Nat.le_of_ble_eq_true rfl) dX4_init_17 (fun q17 H hP hD hS => ?_)
  have hP : va_P G vwCl ([(b, .inr (4, [.ref q8, .null, .int 0])), (q8, .inl (T 0, 1127, .inl (fun _ => 0))), (q17, .inl (T 0, 161, .inl (fun _ => 0)))]) H := hP
  have hD : va_D A ([(b, .inr (4, [.ref q8, .null, .int 0])), (q8, .inl (T 0, 1127, .inl (fun _ => 0))), (q17, .inl (T 0, 161, .inl (fun _ => 0)))]) := hD
  refine va_putF (D := G) (ci := 4) (v := .ref q17) (ty := .array .int) (C := RX4) (T := TX4) (N := 3) hx hb hts hinX4 tyX4 tyX4_ok nmX4 hown hK hP hD hS 0 rfl rfl 1 (by decide) (hts (.fieldLink RX4 15 "WhistleTunes$ShapeTree" "messages" "[I") (by decide +kernel)) (fun _ h9 => h9) rfl hin2 rfl (by decide +kernel) rfl rfl (Nat.le_of_ble_eq_true rfl) dX4_init_19 (fun H locs hP hD hS => ?_)
  have hP : va_P G vwCl ([(b, .inr (4, [.ref q8, .ref q17, .int 0])), (q8, .inl (T 0, 1127, .inl (fun _ => 0))), (q17, .inl (T 0, 161, .inl (fun _ => 0)))]) H := hP
  have hD : va_D A ([(b, .inr (4, [.ref q8, .ref q17, .int 0])), (q8, .inl (T 0, 1127, .inl (fun _ => 0))), (q17, .inl (T 0, 161, .inl (fun _ => 0)))]) := hD
  subst hQ
  exact W.vret hx hb hr (fun t ht _ => ⟨⟨(fun k => if k = 2 then q17 else if k = 1 then q8 else b), rfl, rfl, by rw [ht]; exact hP, hD⟩, hS.F ht⟩) hS.2.2 dX4_init_22 hlocks
def iZX2 : Nat → Nat → Int32 := fun _ _ => 0
set_option maxHeartbeats 8000000 in
set_option maxRecDepth 100000 in
theorem c_X2_init (l : Launch) (G : va_G) (T : Nat → ClassId) (sz b : Nat) : RWn l yX2_init wsX2_init 1 0 0 G T sz [(b, .inr (2, [.int 0, .int 0, .int 0, .int 0, .int 0]))] [.ref b] (fun u : Nat → Nat => u 0 = b) (fun u => oX2 T u iZX2) := by
  refine Met.ofW (cc := cX2_init) (maxL := 1) (ret := none) (by decide) rfl ?_
  intro p e s m args below meth c s₁ B hml hv
  obtain ⟨ha, ⟨hsz, hP, hK, hD0, hE0⟩, hO⟩ := hv
  have hx := B.exec
  have hb := B.bytes
  have hr := B.returns
  have hlocks := B.notSynchronized
  have hin2 : meth.name = "<init>" := (name_of_methodNamed B.named B.method).1
  have hts := atoms_spec (ws := wsX2_init) B.pre
  have hown : s.vm.findClass RX2 = some m.cls := findClass_of_methodNamed B.named
  have cx : CallFix p m c cX2_init 1 s args wsX2_init RX2 := ⟨hx, hb, hml, hown, hts⟩
  subst hsz
  have hD := hD0.self (sz := s.heap.size)
  generalize hAe : va_A [(b, .inr (2, [.int 0, .int 0, .int 0, .int 0, .int 0]))] s.heap.size = A at hD hE0 ⊢
  have hE : gE A s s.heap := hE0
  have hA : ∀ q : Nat, s.heap.size ≤ q → A q := fun q h => by rw [← hAe]; exact Or.inr h
  have hS : va_S A s.heap s.heap [] := va_S.rf
  refine w_entry ha (Nat.le_of_ble_eq_true rfl) (fun ls hl => ?_)
  refine w_q (fun Q0 hQ => ?_)
  have hl : lv_has ls 1 [(0, .ref b)] := hl
  refine w_h (fun H locs hHe hLe => ?_)
  have hP : va_P G vwCl [(b, .inr (2, [.int 0, .int 0, .int 0, .int 0, .int 0]))] H := by rw [hHe]; exact hP
  have hS : va_S A s.heap H locs := by rw [hHe, hLe]; exact hS
  refine lv_aload_n hx hb dX2_init_0 rfl (lv_at hl 0 rfl) ?_
  refine W.objInit hx hb hown (hts (.methodLink RX2 3 objectInit) (by decide +kernel)) (hts (.instanceMethod objectInit) (by decide +kernel)) (hts _ (List.mem_of_getElem? (i := 3) rfl)) rfl (by rw [hml]; exact hl.1) rfl dX2_init_1 (Nat.le_of_ble_eq_true rfl) (Nat.le_of_ble_eq_true rfl) ?_
  refine W.eq (g2 := F0 m 4 ls []) rfl ?_
  subst hQ
  exact W.vret hx hb hr (fun t ht _ => ⟨⟨(fun k => b), rfl, rfl, by rw [ht]; exact hP, hD⟩, hS.F ht⟩) hS.2.2 dX2_init_4 hlocks
