/-! String.indexOf(int) over the one constant of the note names (printed by wip/p33/s32.py) -/
def gBa (k : Nat) : Int32 := (gByt.getD 0 []).getD k 0
theorem i2b_all : ∀ n : Fin 128, (nI n.val).toInt8.toInt32 = nI n.val := by decide +kernel
theorem i2b_s {n : Nat} (h : n < 128) : (nI n).toInt8.toInt32 = nI n := i2b_all ⟨n, h⟩
/-- where a sign stands among the notes' names, or -1 -/
def pIx (c : Nat) : Int32 := mFind (fun k => decide (gBa k = nI c)) 7 0
def sS (A : Nat → Prop) (a b : Nat) (U : State) (H : Heap) : Prop := ∃ adK adV : Nat → Nat, vk_S 1 [7] gByt adK adV A U H ∧ adK 0 = a ∧ adV 0 = b
theorem sS.moved {A : Nat → Prop} {a b : Nat} {u U : State} {H : Heap} (hvm : u.vm.Alike U.vm) (h : sS A a b u H) : sS A a b U H := by
  obtain ⟨adK, adV, h1, h2⟩ := h
  exact ⟨adK, adV, h1.moved hvm, h2⟩
def ROs (l : Launch) (y : MethodName) (wz : List Cond) (d : Nat) (G : va_G) (T : Nat → ClassId) (A : Nat → Prop) (a b : Nat) (av : List Value) (v : Int32) : Prop := Met l y wz (rmD d 0 0) (va_Pc av (fun U => sB G T A [] U ∧ sS A a b U U.heap)) (vp_Si (fun r => r = v)) 0 0 (fun _ => False)
theorem sS_blind {G : va_G} {T : Nat → ClassId} {A : Nat → Prop} {a b : Nat} {av : List Value} : FrameBlind (va_Pc av (fun U => sB G T A [] U ∧ sS A a b U U.heap)) := by
  rintro ar U g mk ⟨h0, h1, h2⟩
  exact ⟨h0, (sB_blind (av := av) ar U g mk ⟨h0, h1⟩).2, sS.moved (u := U) (U := U.calling g mk ar) (Vm.Alike.refl U.vm) h2⟩
section KS
variable {p : Program} {l : Launch} {e : Env} {R : Room} {s : State} {m : MethodId} {args : Array Value} {below : List Frame} {meth : Method} {c : Code} {H : Heap} {locs : List Loc} {cells slots : Nat} {Q : State → Prop}
variable {y : MethodName} {bytes cc : ByteArray} {maxL nL n index d : Nat} {ret : Option FieldType} {wz Ts : List Cond} {own C : String} {b a9 b9 : Addr} {As rest st0 : List Value} {G : va_G} {T : Nat → ClassId} {A A1 : Nat → Prop} {v : Int32} {pc : Nat} {ls : Array Slot}
theorem k_rsV (S : CallFix p m c cc nL s args Ts own) (hM : ROs l y wz d G T A1 a9 b9 (.ref b :: As) v) (cw : CallW R s args own C index y bytes maxL ret wz (rmD d 0 0) 0 0 n) (hK : va_K G vwCl (tyL T) s) (hE : gE A1 s H) (hs : sS A1 a9 b9 s H) (hrecv : ∃ cellB : Cell, H[b]? = some cellB ∧ cellB.vm.isStatics = false ∧ s.vm.findClass C = some cellB.cls)
    (hn : As.length = n) (hsz : ls.size = nL) (hst : st0 = As.reverse ++ .ref b :: rest) (hW : (rest.map fun v => v.category).sum ≤ 8) (hdg : decode cc pc = .ok (.invokevirtual index, 3)) (hf : cells + 0 ≤ R.cells ∧ slots + 0 ≤ R.slots)
    (kk : W p l e R s m args below meth c H locs cells slots Q (F0 m (pc + 3) ls (.int v :: rest))) : W p l e R s m args below meth c H locs cells slots Q (F0 m pc ls st0) :=
  vp_callSi (W.runV S hM cw ⟨sS_blind, hrecv, fun U hU hW1 => ⟨rfl, ⟨fun k q h => by simp at h, hK.moved hW1.alike, by rw [hU]; exact hE.warm hW1⟩, by rw [hU]; exact hs.moved hW1.alike⟩⟩ rfl hn hsz hst (lv_room hW) hdg hf) (fun r hr => by rw [hr]; exact kk)
theorem k_rsS (S : CallFix p m c cc nL s args Ts own) (hM : ROs l y wz d G T A1 a9 b9 As v) (cw : CallB R s args own index y bytes maxL ret wz (rmD d 0 0) 0 0 n ∧ (Cond.static y).before args s = true) (hK : va_K G vwCl (tyL T) s) (hE : gE A1 s H) (hs : sS A1 a9 b9 s H)
    (hn : As.length = n) (hsz : ls.size = nL) (hst : st0 = As.reverse ++ rest) (hW : (rest.map fun v => v.category).sum ≤ 8) (hdg : decode cc pc = .ok (.invokestatic index, 3)) (hf : cells + 0 ≤ R.cells ∧ slots + 0 ≤ R.slots)
    (kk : W p l e R s m args below meth c H locs cells slots Q (F0 m (pc + 3) ls (.int v :: rest))) : W p l e R s m args below meth c H locs cells slots Q (F0 m pc ls st0) :=
  vp_callSi (W.runS S hM cw ⟨sS_blind, fun U hU hW1 => ⟨rfl, ⟨fun k q h => by simp at h, hK.moved hW1.alike, by rw [hU]; exact hE.warm hW1⟩, by rw [hU]; exact hs.moved hW1.alike⟩⟩ rfl hn hsz hst (lv_room hW) hdg hf) (fun r hr => by rw [hr]; exact kk)
end KS
theorem nar_y0 : narrow .byte (.int (nI 0)) = .int (nI 0) := rfl

set_option maxHeartbeats 4000000 in
set_option maxRecDepth 100000 in
theorem c_J0_isLatin1_aae02 (l : Launch) (G : va_G) (T : Nat → ClassId) (A : Nat → Prop) (a9 b9 : Nat) : ROs l yJ0_isLatin1_aae02 wsJ0_isLatin1_aae02 0 G T A a9 b9 [.ref a9] (bI true) := by
  refine Met.ofW (cc := cJ0_isLatin1_aae02) (maxL := 1) (ret := (some .boolean)) (by decide) rfl ?_
  intro p e s m args below meth c s₁ B hml hv
  obtain ⟨ha, ⟨hP, hK, hE⟩, adK, adV, hvk, rfl, rfl⟩ := hv
  have hx := B.exec
  have hb := B.bytes
  have hr := B.returns
  have hlocks := B.notSynchronized
  have hts := atoms_spec (ws := wsJ0_isLatin1_aae02) B.pre
  have hown : s.vm.findClass RJ0 = some m.cls := findClass_of_methodNamed B.named
  have cx : CallFix p m c cJ0_isLatin1_aae02 1 s args wsJ0_isLatin1_aae02 RJ0 := ⟨hx, hb, hml, hown, hts⟩
  refine w_entry ha (Nat.le_of_ble_eq_true rfl) (fun ls hl => ?_)
  refine w_q (fun Q0 hQ => ?_)
  have lk38 := hts (.fieldLink RJ0 38 "java/lang/String" "COMPACT_STRINGS" "Z") (by decide +kernel)
  have lk15 := hts (.fieldLink RJ0 15 "java/lang/String" "coder" "B") (by decide +kernel)
  have hl : lv_has ls 1 [(0, .ref (adK 0))] := hl
  have hP : va_P G vwCl [] s.heap := hP
  refine va_gets (v := .int 1) hx hb hE.2.2.2.1 va_S.rf hown lk38 (fun _ h9 => h9) dJ0_isLatin1_aae02_0 ?_
  refine n_top (y := bI true) rfl ?_
  refine b_if_eq (b := true) (tgt := 17) hx hb dJ0_isLatin1_aae02_3 (by decide) (fun c_1 => by exfalso; cases c_1) (fun c_2 => ?_)
  refine lv_aload_n hx hb dJ0_isLatin1_aae02_6 rfl (lv_at hl 0 rfl) ?_
  refine vk_getf hx hb (hvk.1 0 (by decide)).2.1 va_S.rf hown lk15 (fun _ h9 => h9) dJ0_isLatin1_aae02_7 ?_
  refine n_top (y := nI 0) rfl ?_
  refine n_if_ne (a := 0) (tgt := 17) hx hb (by decide) dJ0_isLatin1_aae02_10 (by decide) (fun h9 => absurd h9 (by decide)) (fun c_3 => ?_)
  refine n_iconst hx hb 1 dJ0_isLatin1_aae02_13 (by decide) ?_
  refine lv_goto (tgt := 18) hx hb dJ0_isLatin1_aae02_14 (by decide) ?_
  subst hQ
  exact e_roz hx hb hr hlocks (by first | rfl | exact nar_b _) rfl dJ0_isLatin1_aae02_18
set_option maxHeartbeats 4000000 in
set_option maxRecDepth 100000 in
theorem c_J0_coder_7d493 (l : Launch) (G : va_G) (T : Nat → ClassId) (A : Nat → Prop) (a9 b9 : Nat) : ROs l yJ0_coder_7d493 wsJ0_coder_7d493 0 G T A a9 b9 [.ref a9] (nI 0) := by
  refine Met.ofW (cc := cJ0_coder_7d493) (maxL := 1) (ret := (some .byte)) (by decide) rfl ?_
  intro p e s m args below meth c s₁ B hml hv
  obtain ⟨ha, ⟨hP, hK, hE⟩, adK, adV, hvk, rfl, rfl⟩ := hv
  have hx := B.exec
  have hb := B.bytes
  have hr := B.returns
  have hlocks := B.notSynchronized
  have hts := atoms_spec (ws := wsJ0_coder_7d493) B.pre
  have hown : s.vm.findClass RJ0 = some m.cls := findClass_of_methodNamed B.named
  have cx : CallFix p m c cJ0_coder_7d493 1 s args wsJ0_coder_7d493 RJ0 := ⟨hx, hb, hml, hown, hts⟩
  refine w_entry ha (Nat.le_of_ble_eq_true rfl) (fun ls hl => ?_)
  refine w_q (fun Q0 hQ => ?_)
  have lk38 := hts (.fieldLink RJ0 38 "java/lang/String" "COMPACT_STRINGS" "Z") (by decide +kernel)
  have lk15 := hts (.fieldLink RJ0 15 "java/lang/String" "coder" "B") (by decide +kernel)
  have hl : lv_has ls 1 [(0, .ref (adK 0))] := hl
  have hP : va_P G vwCl [] s.heap := hP
  refine va_gets (v := .int 1) hx hb hE.2.2.2.1 va_S.rf hown lk38 (fun _ h9 => h9) dJ0_coder_7d493_0 ?_
  refine n_top (y := bI true) rfl ?_
  refine b_if_eq (b := true) (tgt := 13) hx hb dJ0_coder_7d493_3 (by decide) (fun c_1 => by exfalso; cases c_1) (fun c_2 => ?_)
  refine lv_aload_n hx hb dJ0_coder_7d493_6 rfl (lv_at hl 0 rfl) ?_
  refine vk_getf hx hb (hvk.1 0 (by decide)).2.1 va_S.rf hown lk15 (fun _ h9 => h9) dJ0_coder_7d493_7 ?_
  refine n_top (y := nI 0) rfl ?_
  refine lv_goto (tgt := 14) hx hb dJ0_coder_7d493_10 (by decide) ?_
  subst hQ
  exact e_roz hx hb hr hlocks nar_y0 rfl dJ0_coder_7d493_14
set_option maxHeartbeats 4000000 in
set_option maxRecDepth 100000 in
theorem c_J0_length_8abf5 (l : Launch) (G : va_G) (T : Nat → ClassId) (A : Nat → Prop) (a9 b9 : Nat) : ROs l yJ0_length_8abf5 wsJ0_length_8abf5 1 G T A a9 b9 [.ref a9] (nI 7) := by
  refine Met.ofW (cc := cJ0_length_8abf5) (maxL := 1) (ret := (some .int)) (by decide) rfl ?_
  intro p e s m args below meth c s₁ B hml hv
  obtain ⟨ha, ⟨hP, hK, hE⟩, adK, adV, hvk, rfl, rfl⟩ := hv
  have hx := B.exec
  have hb := B.bytes
  have hr := B.returns
  have hlocks := B.notSynchronized
  have hts := atoms_spec (ws := wsJ0_length_8abf5) B.pre
  have hown : s.vm.findClass RJ0 = some m.cls := findClass_of_methodNamed B.named
  have cx : CallFix p m c cJ0_length_8abf5 1 s args wsJ0_length_8abf5 RJ0 := ⟨hx, hb, hml, hown, hts⟩
  refine w_entry ha (Nat.le_of_ble_eq_true rfl) (fun ls hl => ?_)
  refine w_q (fun Q0 hQ => ?_)
  have lk9 := hts (.fieldLink RJ0 9 "java/lang/String" "value" "[B") (by decide +kernel)
  have hl : lv_has ls 1 [(0, .ref (adK 0))] := hl
  have hP : va_P G vwCl [] s.heap := hP
  refine lv_aload_n hx hb dJ0_length_8abf5_0 rfl (lv_at hl 0 rfl) ?_
  refine vk_getf hx hb (hvk.1 0 (by decide)).2.2.1 va_S.rf hown lk9 (fun _ h9 => h9) dJ0_length_8abf5_1 ?_
  refine va_tlen hx hb (hvk.1 0 (by decide)).2.2.2 va_S.rf (v := nI 7) rfl dJ0_length_8abf5_4 ?_
  refine lv_aload_n hx hb dJ0_length_8abf5_5 rfl (lv_at hl 0 rfl) ?_
  refine k_rsV (As := []) (rest := [.int (nI 7)]) (d := 0) (v := nI 0) cx (c_J0_coder_7d493 l G T A (adK 0) (adV 0)  ) (cwV 0 hts gJ0_length_8abf5_J0_coder_7d493 rfl rfl rfl (by decide +kernel) ⟨Nat.le_of_ble_eq_true rfl, Nat.le_of_ble_eq_true rfl⟩) hK hE ⟨adK, adV, hvk.kept va_S.rf.2.1, rfl, rfl⟩ (vk_recv hvk (by decide) va_S.rf) rfl hl.1 rfl (Nat.le_of_ble_eq_true rfl) dJ0_length_8abf5_6 ⟨Nat.le_of_ble_eq_true rfl, Nat.le_of_ble_eq_true rfl⟩ ?_
  refine x_ishr hx hb dJ0_length_8abf5_9 ?_
  subst hQ
  exact e_ro hx hb hr hlocks (by decide) dJ0_length_8abf5_10
set_option maxHeartbeats 4000000 in
set_option maxRecDepth 100000 in
theorem c_J1_canEncode_9a6ad (l : Launch) (G : va_G) (T : Nat → ClassId) (A : Nat → Prop) (cc : Nat) (hc128 : cc < 128) : RO l yJ1_canEncode_9a6ad wsJ1_canEncode_9a6ad 0 G T A ([]) [.int (nI cc)] (bI true) := by
  refine Met.ofW (cc := cJ1_canEncode_9a6ad) (maxL := 1) (ret := (some .boolean)) (by decide) rfl ?_
  intro p e s m args below meth c s₁ B hml hv
  obtain ⟨ha, hP, hK, hE⟩ := hv
  have hx := B.exec
  have hb := B.bytes
  have hr := B.returns
  have hlocks := B.notSynchronized
  have hts := atoms_spec (ws := wsJ1_canEncode_9a6ad) B.pre
  have hown : s.vm.findClass RJ1 = some m.cls := findClass_of_methodNamed B.named
  have cx : CallFix p m c cJ1_canEncode_9a6ad 1 s args wsJ1_canEncode_9a6ad RJ1 := ⟨hx, hb, hml, hown, hts⟩
  refine w_entry ha (Nat.le_of_ble_eq_true rfl) (fun ls hl => ?_)
  refine w_q (fun Q0 hQ => ?_)
  have hl : lv_has ls 1 [(0, .int (nI cc))] := hl
  have hP : va_P G vwCl [] s.heap := hP
  refine lv_iload_n hx hb dJ1_canEncode_9a6ad_0 rfl (lv_at hl 0 rfl) ?_
  refine n_if_lt (a := cc) hx hb (by omega) dJ1_canEncode_9a6ad_1 15 (by decide) ?_
  refine lv_iload_n hx hb dJ1_canEncode_9a6ad_4 rfl (lv_at hl 0 rfl) ?_
  refine lv_sipush (v := nI 255) hx hb dJ1_canEncode_9a6ad_5 (by decide) ?_
  refine n_icmp_gt (a := cc) (b := 255) (tgt := 15) hx hb (by omega) (by decide) dJ1_canEncode_9a6ad_8 (by decide) (fun c_1 => by exfalso; omega) (fun c_2 => ?_)
  refine n_iconst hx hb 1 dJ1_canEncode_9a6ad_11 (by decide) ?_
  refine lv_goto (tgt := 16) hx hb dJ1_canEncode_9a6ad_12 (by decide) ?_
  subst hQ
  exact e_roz hx hb hr hlocks (by first | rfl | exact nar_b _) rfl dJ1_canEncode_9a6ad_16
set_option maxHeartbeats 4000000 in
set_option maxRecDepth 100000 in
theorem c_J1_indexOfChar_4cfef (l : Launch) (G : va_G) (T : Nat → ClassId) (A : Nat → Prop) (a9 b9 : Nat) (cc : Nat) (hc128 : cc < 128) : ROs l yJ1_indexOfChar_4cfef wsJ1_indexOfChar_4cfef 0 G T A a9 b9 [.ref b9, .int (nI cc), .int (nI 0), .int (nI 7)] (pIx cc) := by
  refine Met.ofW (cc := cJ1_indexOfChar_4cfef) (maxL := 6) (ret := (some .int)) (by decide) rfl ?_
  intro p e s m args below meth c s₁ B hml hv
  obtain ⟨ha, ⟨hP, hK, hE⟩, adK, adV, hvk, rfl, rfl⟩ := hv
  have hx := B.exec
  have hb := B.bytes
  have hr := B.returns
  have hlocks := B.notSynchronized
  have hts := atoms_spec (ws := wsJ1_indexOfChar_4cfef) B.pre
  have hown : s.vm.findClass RJ1 = some m.cls := findClass_of_methodNamed B.named
  have cx : CallFix p m c cJ1_indexOfChar_4cfef 6 s args wsJ1_indexOfChar_4cfef RJ1 := ⟨hx, hb, hml, hown, hts⟩
  refine w_entry ha (Nat.le_of_ble_eq_true rfl) (fun ls hl => ?_)
  refine w_q (fun Q0 hQ => ?_)
  have hl : lv_has ls 6 [(0, .ref (adV 0)), (1, .int (nI cc)), (2, .int (nI 0)), (3, .int (nI 7))] := hl
  have hP : va_P G vwCl [] s.heap := hP
  refine lv_iload_n hx hb dJ1_indexOfChar_4cfef_0 rfl (lv_at hl 1 rfl) ?_
  refine lv_i2b (v := nI cc) hx hb dJ1_indexOfChar_4cfef_1 (i2b_s (by omega)) ?_
  refine lv_istore (lv' := [(4, .int (nI cc)), (0, .ref (adV 0)), (1, .int (nI cc)), (2, .int (nI 0)), (3, .int (nI 7))]) hx hb dJ1_indexOfChar_4cfef_2 hl (by decide) rfl (fun ls hl => ?_)
  refine lv_iload_n hx hb dJ1_indexOfChar_4cfef_4 rfl (lv_at hl 3 rfl) ?_
  refine lv_istore (lv' := [(5, .int (nI 0)), (4, .int (nI cc)), (0, .ref (adV 0)), (1, .int (nI cc)), (2, .int (nI 0)), (3, .int (nI 7))]) hx hb dJ1_indexOfChar_4cfef_5 hl (by decide) rfl (fun ls hl => ?_)
  have L7 : ∀ (n9 k : Nat) (hk1 : k ≤ 7) (hk2 : 7 - k < n9) (hno : pIx cc = mFind (fun k => decide (gBa k = nI cc)) (7 - k) k) (x5 : Int32) (hx5 : x5 = nI k) (ls : Array Slot) (hl : lv_has ls 6 [(5, .int x5), (4, .int (nI cc)), (0, .ref (adV 0)), (1, .int (nI cc)), (2, .int (nI 0)), (3, .int (nI 7))]), W p l e (headSpec wsJ1_indexOfChar_4cfef (rmD 0 0 0)).room s m args below meth c s.heap [] 0 0 Q0 (F0 m 7 ls []) := by
    intro n9
    induction n9 with
    | zero => intros; omega
    | succ n9 ih7 =>
      intro k hk1 hk2 hno x5 hx5 ls hl
      subst hx5
      refine lv_iload hx hb dJ1_indexOfChar_4cfef_7 (lv_at hl 0 rfl) ?_
      refine lv_iload_n hx hb dJ1_indexOfChar_4cfef_9 rfl (lv_at hl 5 rfl) ?_
      refine n_icmp_ge (a := k) (b := 7) (tgt := 31) hx hb (by omega) (by decide) dJ1_indexOfChar_4cfef_10 (by decide) (fun c_1 => ?_) (fun c_2 => ?_)
      · skip
        refine lv_iconst (v := -1) hx hb dJ1_indexOfChar_4cfef_31 (by decide) ?_
        subst hQ
        exact e_ro hx hb hr hlocks (by obtain rfl : k = 7 := (by omega); rw [hno]; rfl) dJ1_indexOfChar_4cfef_32
      · skip
        refine lv_aload_n hx hb dJ1_indexOfChar_4cfef_13 rfl (lv_at hl 2 rfl) ?_
        refine lv_iload hx hb dJ1_indexOfChar_4cfef_14 (lv_at hl 0 rfl) ?_
        refine va_tb (i := nI k) hx hb (hvk.1 0 (by decide)).2.2.2 va_S.rf (vp_in_nI (show k < 7 by omega) (by decide)) (v := .int (gBa k)) (by rw [nI_clamp (by omega)]; rfl) dJ1_indexOfChar_4cfef_16 ?_
        refine lv_iload hx hb dJ1_indexOfChar_4cfef_17 (lv_at hl 1 rfl) ?_
        refine lv_icmp_ne (tgt := 25) hx hb dJ1_indexOfChar_4cfef_19 (by decide) (fun c_3 => ?_) (fun c_4 => ?_)
        · skip
          refine lv_iinc (v := nI (k + 1)) (lv' := [(5, .int (nI (k + 1))), (4, .int (nI cc)), (0, .ref (adV 0)), (1, .int (nI cc)), (2, .int (nI 0)), (3, .int (nI 7))]) hx hb dJ1_indexOfChar_4cfef_25 hl (k := 0) rfl (n_inc k 1 rfl) (by decide) rfl (fun ls hl => ?_)
          refine lv_goto (tgt := 7) hx hb dJ1_indexOfChar_4cfef_28 (by decide) ?_
          exact ih7 (k + 1) (by omega) (by omega) (by rw [hno, mFind_n (by omega) (by simp [c_3])]) _ rfl _ (lv_sub hl [0, 1, 2, 3, 4, 5] rfl)
        · skip
          refine lv_iload hx hb dJ1_indexOfChar_4cfef_22 (lv_at hl 0 rfl) ?_
          subst hQ
          exact e_ro hx hb hr hlocks (by rw [hno, mFind_y (by omega) (by simp [c_4])]) dJ1_indexOfChar_4cfef_24
  exact L7 (7 + 1) 0 (by omega) (by omega) rfl _ rfl _ (lv_sub hl [0, 1, 2, 3, 4, 5] rfl)
set_option maxHeartbeats 4000000 in
set_option maxRecDepth 100000 in
theorem c_J1_indexOf_4cfef (l : Launch) (G : va_G) (T : Nat → ClassId) (A : Nat → Prop) (a9 b9 : Nat) (cc : Nat) (hc128 : cc < 128) : ROs l yJ1_indexOf_4cfef wsJ1_indexOf_4cfef 1 G T A a9 b9 [.ref b9, .int (nI cc), .int (nI 0), .int (nI 7)] (pIx cc) := by
  refine Met.ofW (cc := cJ1_indexOf_4cfef) (maxL := 4) (ret := (some .int)) (by decide) rfl ?_
  intro p e s m args below meth c s₁ B hml hv
  obtain ⟨ha, ⟨hP, hK, hE⟩, adK, adV, hvk, rfl, rfl⟩ := hv
  have hx := B.exec
  have hb := B.bytes
  have hr := B.returns
  have hlocks := B.notSynchronized
  have hts := atoms_spec (ws := wsJ1_indexOf_4cfef) B.pre
  have hown : s.vm.findClass RJ1 = some m.cls := findClass_of_methodNamed B.named
  have cx : CallFix p m c cJ1_indexOf_4cfef 4 s args wsJ1_indexOf_4cfef RJ1 := ⟨hx, hb, hml, hown, hts⟩
  refine w_entry ha (Nat.le_of_ble_eq_true rfl) (fun ls hl => ?_)
  refine w_q (fun Q0 hQ => ?_)
  have hl : lv_has ls 4 [(0, .ref (adV 0)), (1, .int (nI cc)), (2, .int (nI 0)), (3, .int (nI 7))] := hl
  have hP : va_P G vwCl [] s.heap := hP
  refine lv_iload_n hx hb dJ1_indexOf_4cfef_0 rfl (lv_at hl 1 rfl) ?_
  refine k_roS (As := [.int (nI cc)]) (rest := []) (wc := []) (d := 0) (v := bI true) cx (c_J1_canEncode_9a6ad l G T A cc (by omega)) (va_cwS 1 hts gJ1_indexOf_4cfef_J1_canEncode_9a6ad rfl rfl rfl (by decide +kernel) ⟨Nat.le_of_ble_eq_true rfl, Nat.le_of_ble_eq_true rfl⟩) hP hK hE rfl hl.1 rfl (Nat.le_of_ble_eq_true rfl) dJ1_indexOf_4cfef_1 ⟨Nat.le_of_ble_eq_true rfl, Nat.le_of_ble_eq_true rfl⟩ ?_
  refine b_if_ne (b := true) (tgt := 9) hx hb dJ1_indexOf_4cfef_4 (by decide) (fun c_1 => ?_) (fun c_2 => by exfalso; cases c_2)
  refine lv_iload_n hx hb dJ1_indexOf_4cfef_9 rfl (lv_at hl 2 rfl) ?_
  refine n_iconst hx hb 0 dJ1_indexOf_4cfef_10 (by decide) ?_
  refine va_mmax hx hb (hml.trans hl.1.symm) hown (hts (.methodLink RJ1 92 Lib.Math.max.name) (by decide +kernel)) (hts (.static Lib.Math.max.name) (by decide +kernel)) (hts (.initialized "java/lang/Math") (by decide +kernel)) (hts (.code Lib.Math.max.name Lib.Math.max.code 2 (some .int)) (by decide +kernel)) (Nat.le_of_ble_eq_true rfl) (Nat.le_of_ble_eq_true rfl) (Nat.le_of_ble_eq_true rfl) (Nat.le_of_ble_eq_true rfl) dJ1_indexOf_4cfef_11 ?_
  refine n_top (y := nI 0) (by decide) ?_
  refine lv_istore_n (lv' := [(2, .int (nI 0)), (0, .ref (adV 0)), (1, .int (nI cc)), (3, .int (nI 7))]) hx hb dJ1_indexOf_4cfef_14 rfl hl (by decide) rfl (fun ls hl => ?_)
  refine lv_iload_n hx hb dJ1_indexOf_4cfef_15 rfl (lv_at hl 3 rfl) ?_
  refine lv_aload_n hx hb dJ1_indexOf_4cfef_16 rfl (lv_at hl 1 rfl) ?_
  refine va_tlen hx hb (hvk.1 0 (by decide)).2.2.2 va_S.rf (v := nI 7) rfl dJ1_indexOf_4cfef_17 ?_
  refine va_mmin hx hb (hml.trans hl.1.symm) hown (hts (.methodLink RJ1 38 Lib.Math.min.name) (by decide +kernel)) (hts (.static Lib.Math.min.name) (by decide +kernel)) (hts (.initialized "java/lang/Math") (by decide +kernel)) (hts (.code Lib.Math.min.name Lib.Math.min.code 2 (some .int)) (by decide +kernel)) (Nat.le_of_ble_eq_true rfl) (Nat.le_of_ble_eq_true rfl) (Nat.le_of_ble_eq_true rfl) (Nat.le_of_ble_eq_true rfl) dJ1_indexOf_4cfef_18 ?_
  refine n_top (y := nI 7) (by decide) ?_
  refine lv_istore_n (lv' := [(3, .int (nI 7)), (2, .int (nI 0)), (0, .ref (adV 0)), (1, .int (nI cc))]) hx hb dJ1_indexOf_4cfef_21 rfl hl (by decide) rfl (fun ls hl => ?_)
  refine lv_iload_n hx hb dJ1_indexOf_4cfef_22 rfl (lv_at hl 1 rfl) ?_
  refine lv_iload_n hx hb dJ1_indexOf_4cfef_23 rfl (lv_at hl 0 rfl) ?_
  refine n_icmp_lt (a := 0) (b := 7) (tgt := 29) hx hb (by decide) (by decide) dJ1_indexOf_4cfef_24 (by decide) (fun c_3 => ?_) (fun h9 => absurd h9 (by decide))
  refine lv_aload_n hx hb dJ1_indexOf_4cfef_29 rfl (lv_at hl 2 rfl) ?_
  refine lv_iload_n hx hb dJ1_indexOf_4cfef_30 rfl (lv_at hl 3 rfl) ?_
  refine lv_iload_n hx hb dJ1_indexOf_4cfef_31 rfl (lv_at hl 1 rfl) ?_
  refine lv_iload_n hx hb dJ1_indexOf_4cfef_32 rfl (lv_at hl 0 rfl) ?_
  refine k_rsS (As := [.ref (adV 0), .int (nI cc), .int (nI 0), .int (nI 7)]) (rest := []) (d := 0) (v := pIx cc) cx (c_J1_indexOfChar_4cfef l G T A (adK 0) (adV 0) cc (by omega)) (va_cwS 4 hts gJ1_indexOf_4cfef_J1_indexOfChar_4cfef rfl rfl rfl (by decide +kernel) ⟨Nat.le_of_ble_eq_true rfl, Nat.le_of_ble_eq_true rfl⟩) hK hE ⟨adK, adV, hvk.kept va_S.rf.2.1, rfl, rfl⟩ rfl hl.1 rfl (Nat.le_of_ble_eq_true rfl) dJ1_indexOf_4cfef_33 ⟨Nat.le_of_ble_eq_true rfl, Nat.le_of_ble_eq_true rfl⟩ ?_
  subst hQ
  exact e_ro hx hb hr hlocks rfl dJ1_indexOf_4cfef_36
set_option maxHeartbeats 4000000 in
set_option maxRecDepth 100000 in
theorem c_J0_indexOf_7cf53 (l : Launch) (G : va_G) (T : Nat → ClassId) (A : Nat → Prop) (a9 b9 : Nat) (cc : Nat) (hc128 : cc < 128) : ROs l yJ0_indexOf_7cf53 wsJ0_indexOf_7cf53 2 G T A a9 b9 [.ref a9, .int (nI cc), .int (nI 0)] (pIx cc) := by
  refine Met.ofW (cc := cJ0_indexOf_7cf53) (maxL := 3) (ret := (some .int)) (by decide) rfl ?_
  intro p e s m args below meth c s₁ B hml hv
  obtain ⟨ha, ⟨hP, hK, hE⟩, adK, adV, hvk, rfl, rfl⟩ := hv
  have hx := B.exec
  have hb := B.bytes
  have hr := B.returns
  have hlocks := B.notSynchronized
  have hts := atoms_spec (ws := wsJ0_indexOf_7cf53) B.pre
  have hown : s.vm.findClass RJ0 = some m.cls := findClass_of_methodNamed B.named
  have cx : CallFix p m c cJ0_indexOf_7cf53 3 s args wsJ0_indexOf_7cf53 RJ0 := ⟨hx, hb, hml, hown, hts⟩
  refine w_entry ha (Nat.le_of_ble_eq_true rfl) (fun ls hl => ?_)
  refine w_q (fun Q0 hQ => ?_)
  have lk9 := hts (.fieldLink RJ0 9 "java/lang/String" "value" "[B") (by decide +kernel)
  have hl : lv_has ls 3 [(0, .ref (adK 0)), (1, .int (nI cc)), (2, .int (nI 0))] := hl
  have hP : va_P G vwCl [] s.heap := hP
  refine lv_aload_n hx hb dJ0_indexOf_7cf53_0 rfl (lv_at hl 0 rfl) ?_
  refine k_rsV (As := []) (rest := []) (d := 0) (v := bI true) cx (c_J0_isLatin1_aae02 l G T A (adK 0) (adV 0)  ) (cwV 0 hts gJ0_indexOf_7cf53_J0_isLatin1_aae02 rfl rfl rfl (by decide +kernel) ⟨Nat.le_of_ble_eq_true rfl, Nat.le_of_ble_eq_true rfl⟩) hK hE ⟨adK, adV, hvk.kept va_S.rf.2.1, rfl, rfl⟩ (vk_recv hvk (by decide) va_S.rf) rfl hl.1 rfl (Nat.le_of_ble_eq_true rfl) dJ0_indexOf_7cf53_1 ⟨Nat.le_of_ble_eq_true rfl, Nat.le_of_ble_eq_true rfl⟩ ?_
  refine b_if_eq (b := true) (tgt := 23) hx hb dJ0_indexOf_7cf53_4 (by decide) (fun c_1 => by exfalso; cases c_1) (fun c_2 => ?_)
  refine lv_aload_n hx hb dJ0_indexOf_7cf53_7 rfl (lv_at hl 0 rfl) ?_
  refine vk_getf hx hb (hvk.1 0 (by decide)).2.2.1 va_S.rf hown lk9 (fun _ h9 => h9) dJ0_indexOf_7cf53_8 ?_
  refine lv_iload_n hx hb dJ0_indexOf_7cf53_11 rfl (lv_at hl 1 rfl) ?_
  refine lv_iload_n hx hb dJ0_indexOf_7cf53_12 rfl (lv_at hl 2 rfl) ?_
  refine lv_aload_n hx hb dJ0_indexOf_7cf53_13 rfl (lv_at hl 0 rfl) ?_
  refine k_rsV (As := []) (rest := [.int (nI 0), .int (nI cc), .ref (adV 0)]) (d := 1) (v := nI 7) cx (c_J0_length_8abf5 l G T A (adK 0) (adV 0)  ) (cwV 0 hts gJ0_indexOf_7cf53_J0_length_8abf5 rfl rfl rfl (by decide +kernel) ⟨Nat.le_of_ble_eq_true rfl, Nat.le_of_ble_eq_true rfl⟩) hK hE ⟨adK, adV, hvk.kept va_S.rf.2.1, rfl, rfl⟩ (vk_recv hvk (by decide) va_S.rf) rfl hl.1 rfl (Nat.le_of_ble_eq_true rfl) dJ0_indexOf_7cf53_14 ⟨Nat.le_of_ble_eq_true rfl, Nat.le_of_ble_eq_true rfl⟩ ?_
  refine k_rsS (As := [.ref (adV 0), .int (nI cc), .int (nI 0), .int (nI 7)]) (rest := []) (d := 1) (v := pIx cc) cx (c_J1_indexOf_4cfef l G T A (adK 0) (adV 0) cc (by omega)) (va_cwS 4 hts gJ0_indexOf_7cf53_J1_indexOf_4cfef rfl rfl rfl (by decide +kernel) ⟨Nat.le_of_ble_eq_true rfl, Nat.le_of_ble_eq_true rfl⟩) hK hE ⟨adK, adV, hvk.kept va_S.rf.2.1, rfl, rfl⟩ rfl hl.1 rfl (Nat.le_of_ble_eq_true rfl) dJ0_indexOf_7cf53_17 ⟨Nat.le_of_ble_eq_true rfl, Nat.le_of_ble_eq_true rfl⟩ ?_
  refine lv_goto (tgt := 36) hx hb dJ0_indexOf_7cf53_20 (by decide) ?_
  subst hQ
  exact e_ro hx hb hr hlocks rfl dJ0_indexOf_7cf53_36
set_option maxHeartbeats 4000000 in
set_option maxRecDepth 100000 in
theorem c_J0_indexOf_0f7a4 (l : Launch) (G : va_G) (T : Nat → ClassId) (A : Nat → Prop) (a9 b9 : Nat) (cc : Nat) (hc128 : cc < 128) : ROs l yJ0_indexOf_0f7a4 wsJ0_indexOf_0f7a4 3 G T A a9 b9 [.ref a9, .int (nI cc)] (pIx cc) := by
  refine Met.ofW (cc := cJ0_indexOf_0f7a4) (maxL := 2) (ret := (some .int)) (by decide) rfl ?_
  intro p e s m args below meth c s₁ B hml hv
  obtain ⟨ha, ⟨hP, hK, hE⟩, adK, adV, hvk, rfl, rfl⟩ := hv
  have hx := B.exec
  have hb := B.bytes
  have hr := B.returns
  have hlocks := B.notSynchronized
  have hts := atoms_spec (ws := wsJ0_indexOf_0f7a4) B.pre
  have hown : s.vm.findClass RJ0 = some m.cls := findClass_of_methodNamed B.named
  have cx : CallFix p m c cJ0_indexOf_0f7a4 2 s args wsJ0_indexOf_0f7a4 RJ0 := ⟨hx, hb, hml, hown, hts⟩
  refine w_entry ha (Nat.le_of_ble_eq_true rfl) (fun ls hl => ?_)
  refine w_q (fun Q0 hQ => ?_)
  have hl : lv_has ls 2 [(0, .ref (adK 0)), (1, .int (nI cc))] := hl
  have hP : va_P G vwCl [] s.heap := hP
  refine lv_aload_n hx hb dJ0_indexOf_0f7a4_0 rfl (lv_at hl 0 rfl) ?_
  refine lv_iload_n hx hb dJ0_indexOf_0f7a4_1 rfl (lv_at hl 1 rfl) ?_
  refine n_iconst hx hb 0 dJ0_indexOf_0f7a4_2 (by decide) ?_
  refine k_rsV (As := [.int (nI cc), .int (nI 0)]) (rest := []) (d := 2) (v := pIx cc) cx (c_J0_indexOf_7cf53 l G T A (adK 0) (adV 0) cc (by omega)) (cwV 2 hts gJ0_indexOf_0f7a4_J0_indexOf_7cf53 rfl rfl rfl (by decide +kernel) ⟨Nat.le_of_ble_eq_true rfl, Nat.le_of_ble_eq_true rfl⟩) hK hE ⟨adK, adV, hvk.kept va_S.rf.2.1, rfl, rfl⟩ (vk_recv hvk (by decide) va_S.rf) rfl hl.1 rfl (Nat.le_of_ble_eq_true rfl) dJ0_indexOf_0f7a4_3 ⟨Nat.le_of_ble_eq_true rfl, Nat.le_of_ble_eq_true rfl⟩ ?_
  subst hQ
  exact e_ro hx hb hr hlocks rfl dJ0_indexOf_0f7a4_6
