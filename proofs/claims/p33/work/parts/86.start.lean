/-! what the law's start gives: classes, array classes, texts, statics, exceptions (printed by wip/p33/mkstart.py) -/
theorem tI {i : Nat} {w : Cond} (h : tables_1[i]? = some w) : w ∈ lw_tbl := List.mem_append_right _ (List.mem_of_getElem? h)
theorem fI {i : Nat} {w : Cond} (h : (flatC (Jvm.Cond.and given_1 narrow_1))[i]? = some w) : w ∈ flatC (Jvm.Cond.and given_1 narrow_1) := List.mem_of_getElem? h
section START
variable {p : Program} {s : State} {m : MethodId} {meth : Method} {c : Code} {b L : Nat} {xs : Nat → Int32}
theorem st_tx {args : Array Value} {own tx : String} {k : Nat} (h1 : (Cond.stringRef own k tx).before args s = true) (h2 : (Cond.exactly (.string own k) "java/lang/String").before args s = true) : ∃ a : Nat, vk_R own k tx a s := by
  obtain ⟨a, c0, cA, kA, q1, -⟩ := Cond.exactly_spec (args := args) (first := s) (o := none) (s := s) (idx := []) (t := .string own k) (cls := "java/lang/String") h2
  exact ⟨a, vk_R.of h1 q1⟩
theorem st_fl (C0 : lw_At p s m meth c b L xs) : ∀ w ∈ flatC (Jvm.Cond.and given_1 narrow_1), w.before #[Value.ref b] s = true := flat_of_before _ C0.2.2.2.2.2.2.2.2.2
theorem st_w (C0 : lw_At p s m meth c b L xs) : ∀ w ∈ lw_tbl, w.before #[Value.ref b] s = true := C0.2.2.2.2.2.1
set_option maxRecDepth 100000 in
theorem st_gC (C0 : lw_At p s m meth c b L xs) : gC s := by
  have hts := st_w C0
  refine ⟨List.forall_mem_cons.mpr ⟨va_Nw.of rfl (hts _ (tI (i := 418) (by decide +kernel))), List.forall_mem_cons.mpr ⟨va_Nw.of rfl (hts _ (tI (i := 375) (by decide +kernel))), List.forall_mem_cons.mpr ⟨va_Nw.of rfl (hts _ (tI (i := 282) (by decide +kernel))), fun _ h => absurd h List.not_mem_nil⟩⟩⟩, List.forall_mem_cons.mpr ⟨va_Nw.of rfl (hts _ (tI (i := 284) (by decide +kernel))), List.forall_mem_cons.mpr ⟨va_Nw.of rfl (hts _ (tI (i := 286) (by decide +kernel))), List.forall_mem_cons.mpr ⟨va_Nw.of rfl (hts _ (tI (i := 288) (by decide +kernel))), fun _ h => absurd h List.not_mem_nil⟩⟩⟩⟩
set_option maxRecDepth 100000 in
theorem st_gNn (C0 : lw_At p s m meth c b L xs) : gNn s := by
  have hs := st_fl C0
  exact ⟨va_Nc.of (hs _ (fI (i := 39) (by decide +kernel))), va_Nc.of (hs _ (fI (i := 40) (by decide +kernel))), va_Nc.of (hs _ (fI (i := 29) (by decide +kernel)))⟩
set_option maxRecDepth 100000 in
theorem st_AO (C0 : lw_At p s m meth c b L xs) : va_AO RX3 s := va_AO.of (st_w C0 (.arrayOver (.object RX3)) (tI (i := 113) (by decide +kernel)))
set_option maxHeartbeats 4000000 in
set_option maxRecDepth 100000 in
theorem st_nest (C0 : lw_At p s m meth c b L xs) : ∀ q ∈ gNest, va_Nw (.methodLinkNest q.1 q.2.1 q.2.2 RX7) s := by
  have hts := st_w C0
  refine List.forall_mem_cons.mpr ⟨va_Nw.of rfl (hts _ (tI (i := 34) (by decide +kernel))), List.forall_mem_cons.mpr ⟨va_Nw.of rfl (hts _ (tI (i := 114) (by decide +kernel))), List.forall_mem_cons.mpr ⟨va_Nw.of rfl (hts _ (tI (i := 128) (by decide +kernel))), List.forall_mem_cons.mpr ⟨va_Nw.of rfl (hts _ (tI (i := 144) (by decide +kernel))), List.forall_mem_cons.mpr ⟨va_Nw.of rfl (hts _ (tI (i := 160) (by decide +kernel))), List.forall_mem_cons.mpr ⟨va_Nw.of rfl (hts _ (tI (i := 181) (by decide +kernel))), List.forall_mem_cons.mpr ⟨va_Nw.of rfl (hts _ (tI (i := 198) (by decide +kernel))), List.forall_mem_cons.mpr ⟨va_Nw.of rfl (hts _ (tI (i := 665) (by decide +kernel))), fun _ h => absurd h List.not_mem_nil⟩⟩⟩⟩⟩⟩⟩⟩
set_option maxHeartbeats 4000000 in
set_option maxRecDepth 100000 in
theorem st_text (C0 : lw_At p s m meth c b L xs) : ∀ q ∈ gText, ∃ a : Nat, vk_R q.1 q.2.1 q.2.2 a s := by
  have hts := st_w C0
  have hs := st_fl C0
  exact List.forall_mem_cons.mpr ⟨st_tx (hts (.stringRef RX7 211 "no saved state") (tI (i := 321) (by decide +kernel))) (hs (.exactly (.string RX7 211) "java/lang/String") (fI (i := 41) (by decide +kernel))), List.forall_mem_cons.mpr ⟨st_tx (hts (.stringRef RX7 175 "no such character") (tI (i := 382) (by decide +kernel))) (hs (.exactly (.string RX7 175) "java/lang/String") (fI (i := 59) (by decide +kernel))), List.forall_mem_cons.mpr ⟨st_tx (hts (.stringRef RX7 178 "the buffer is full") (tI (i := 389) (by decide +kernel))) (hs (.exactly (.string RX7 178) "java/lang/String") (fI (i := 81) (by decide +kernel))), List.forall_mem_cons.mpr ⟨st_tx (hts (.stringRef RX7 71 "no such message") (tI (i := 425) (by decide +kernel))) (hs (.exactly (.string RX7 71) "java/lang/String") (fI (i := 105) (by decide +kernel))), List.forall_mem_cons.mpr ⟨st_tx (hts (.stringRef RX7 82 "the buffer is not a tune") (tI (i := 575) (by decide +kernel))) (hs (.exactly (.string RX7 82) "java/lang/String") (fI (i := 158) (by decide +kernel))), List.forall_mem_cons.mpr ⟨st_tx (hts (.stringRef RX7 91 "the tune cannot be taught") (tI (i := 619) (by decide +kernel))) (hs (.exactly (.string RX7 91) "java/lang/String") (fI (i := 192) (by decide +kernel))), List.forall_mem_cons.mpr ⟨st_tx (hts (.stringRef RX7 164 "no such room or message") (tI (i := 639) (by decide +kernel))) (hs (.exactly (.string RX7 164) "java/lang/String") (fI (i := 228) (by decide +kernel))), List.forall_mem_cons.mpr ⟨st_tx (hts (.stringRef RX7 170 "it cannot be whistled") (tI (i := 648) (by decide +kernel))) (hs (.exactly (.string RX7 170) "java/lang/String") (fI (i := 263) (by decide +kernel))), List.forall_mem_cons.mpr ⟨st_tx (hts (.stringRef RX7 124 "no such room") (tI (i := 702) (by decide +kernel))) (hs (.exactly (.string RX7 124) "java/lang/String") (fI (i := 297) (by decide +kernel))), List.forall_mem_cons.mpr ⟨st_tx (hts (.stringRef RX7 116 "no such key") (tI (i := 713) (by decide +kernel))) (hs (.exactly (.string RX7 116) "java/lang/String") (fI (i := 323) (by decide +kernel))), List.forall_mem_cons.mpr ⟨st_tx (hts (.stringRef RX7 129 "no such floor") (tI (i := 729) (by decide +kernel))) (hs (.exactly (.string RX7 129) "java/lang/String") (fI (i := 349) (by decide +kernel))), List.forall_mem_cons.mpr ⟨st_tx (hts (.stringRef RX7 139 "no such master or message") (tI (i := 737) (by decide +kernel))) (hs (.exactly (.string RX7 139) "java/lang/String") (fI (i := 378) (by decide +kernel))), List.forall_mem_cons.mpr ⟨st_tx (hts (.stringRef RX7 154 "no such setting") (tI (i := 746) (by decide +kernel))) (hs (.exactly (.string RX7 154) "java/lang/String") (fI (i := 420) (by decide +kernel))), List.forall_mem_cons.mpr ⟨st_tx (hts (.stringRef RX7 159 "the value is out of range") (tI (i := 750) (by decide +kernel))) (hs (.exactly (.string RX7 159) "java/lang/String") (fI (i := 453) (by decide +kernel))), List.forall_mem_cons.mpr ⟨st_tx (hts (.stringRef RX7 206 "no such number") (tI (i := 812) (by decide +kernel))) (hs (.exactly (.string RX7 206) "java/lang/String") (fI (i := 497) (by decide +kernel))), List.forall_mem_cons.mpr ⟨st_tx (hts (.stringRef RX7 227 "no such place") (tI (i := 851) (by decide +kernel))) (hs (.exactly (.string RX7 227) "java/lang/String") (fI (i := 531) (by decide +kernel))), List.forall_mem_cons.mpr ⟨st_tx (hts (.stringRef RX7 287 "no such mask") (tI (i := 878) (by decide +kernel))) (hs (.exactly (.string RX7 287) "java/lang/String") (fI (i := 565) (by decide +kernel))), List.forall_mem_cons.mpr ⟨st_tx (hts (.stringRef RX7 273 "no such key or way") (tI (i := 889) (by decide +kernel))) (hs (.exactly (.string RX7 273) "java/lang/String") (fI (i := 599) (by decide +kernel))), fun _ h => absurd h List.not_mem_nil⟩⟩⟩⟩⟩⟩⟩⟩⟩⟩⟩⟩⟩⟩⟩⟩⟩⟩
set_option maxHeartbeats 4000000 in
set_option maxRecDepth 100000 in
theorem st_names (C0 : lw_At p s m meth c b L xs) : ∃ adK adV : Nat → Nat, vk_S 1 [7] gByt adK adV (fun q : Nat => s.heap.size ≤ q) s s.heap ∧ vk_R RX0 56 "cdefgah" (adK 0) s ∧ vk_R RX6 34 "cdefgah" (adK 0) s := by
  have hts := st_w C0
  have hs := st_fl C0
  have hz : ∀ i : Nat, i < 1 → i = 0 := fun i hi => by omega
  obtain ⟨adK, adV, h1, h2⟩ := vk_Sof (args := #[Value.ref b]) (s := s) (N := 1) (tm := fun _ => .string RX0 56) (len := [7]) (byt := gByt) (A := fun q : Nat => s.heap.size ≤ q) (fun i hi => by rw [hz i hi]; decide) (fun i _ => hs (.exactly (.string RX0 56) "java/lang/String") (fI (i := 127) (by decide +kernel))) (fun i _ => hs (.eq (.field (.string RX0 56) "java/lang/String" "coder" "B") (.int 0)) (fI (i := 128) (by decide +kernel)))
    (fun i _ => hs (.arrayOf (.field (.string RX0 56) "java/lang/String" "value" "[B") .byte) (fI (i := 129) (by decide +kernel))) (fun i hi => by rw [hz i hi]; exact hs (.eq (.length (.field (.string RX0 56) "java/lang/String" "value" "[B")) (.int 7)) (fI (i := 130) (by decide +kernel)))
    (fun i hi j hj => by
      rw [hz i hi] at hj ⊢
      have hj : j < 7 := hj
      rcases (show j = 0 ∨ j = 1 ∨ j = 2 ∨ j = 3 ∨ j = 4 ∨ j = 5 ∨ j = 6 by omega) with rfl | rfl | rfl | rfl | rfl | rfl | rfl
      · exact hs (.eq (.elem (.field (.string RX0 56) "java/lang/String" "value" "[B") (.int 0)) (.int 99)) (fI (i := 131) (by decide +kernel))
      · exact hs (.eq (.elem (.field (.string RX0 56) "java/lang/String" "value" "[B") (.int 1)) (.int 100)) (fI (i := 132) (by decide +kernel))
      · exact hs (.eq (.elem (.field (.string RX0 56) "java/lang/String" "value" "[B") (.int 2)) (.int 101)) (fI (i := 133) (by decide +kernel))
      · exact hs (.eq (.elem (.field (.string RX0 56) "java/lang/String" "value" "[B") (.int 3)) (.int 102)) (fI (i := 134) (by decide +kernel))
      · exact hs (.eq (.elem (.field (.string RX0 56) "java/lang/String" "value" "[B") (.int 4)) (.int 103)) (fI (i := 135) (by decide +kernel))
      · exact hs (.eq (.elem (.field (.string RX0 56) "java/lang/String" "value" "[B") (.int 5)) (.int 97)) (fI (i := 136) (by decide +kernel))
      · exact hs (.eq (.elem (.field (.string RX0 56) "java/lang/String" "value" "[B") (.int 6)) (.int 104)) (fI (i := 137) (by decide +kernel)))
    (fun i j hi hj hij => absurd ((hz i hi).trans (hz j hj).symm) hij) (fun a ha => Nat.not_le.mpr ha)
  have e0 := h2 0 (by decide)
  exact ⟨adK, adV, h1, vk_R.of (hts (.stringRef RX0 56 "cdefgah") (tI (i := 465) (by decide +kernel))) e0, vk_R.of (hts (.stringRef RX6 34 "cdefgah") (tI (i := 565) (by decide +kernel))) (va_eqR (hs (.eq (.string RX0 56) (.string RX6 34)) (fI (i := 157) (by decide +kernel))) e0)⟩
set_option maxHeartbeats 4000000 in
set_option maxRecDepth 100000 in
theorem st_gE (C0 : lw_At p s m meth c b L xs) : gE (fun q : Nat => s.heap.size ≤ q) s s.heap := by
  have hts := st_w C0
  have hs := st_fl C0
  have hA : ∀ a : Nat, a < s.heap.size → ¬ (fun q : Nat => s.heap.size ≤ q) a := fun a ha => Nat.not_le.mpr ha
  exact ⟨st_nest C0, st_text C0, st_names C0, va_Zof (hts (.laysStatic "java/lang/String" "COMPACT_STRINGS" "Z") (tI (i := 479) (by decide +kernel))) (hts (.initialized "java/lang/String") (tI (i := 18) (by decide +kernel))) (va_eqt (hs (.eq (.static "java/lang/String" "COMPACT_STRINGS" "Z") (.int 1)) (fI (i := 6) (by decide +kernel)))) hA,
    vx_Zqof (hts (.laysStatic Bundle.tN "UNASSIGNED_STACK" Bundle.steD) (tI (i := 307) (by decide +kernel))) (hts (.initialized Bundle.tN) (tI (i := 9) (by decide +kernel))) (hs (.isRef (.static Bundle.tN "UNASSIGNED_STACK" Bundle.steD)) (fI (i := 4) (by decide +kernel))) hA,
    vx_Zqof (hts (.laysStatic Bundle.tN "SUPPRESSED_SENTINEL" Bundle.listD) (tI (i := 309) (by decide +kernel))) (hts (.initialized Bundle.tN) (tI (i := 9) (by decide +kernel))) (hs (.isRef (.static Bundle.tN "SUPPRESSED_SENTINEL" Bundle.listD)) (fI (i := 5) (by decide +kernel))) hA⟩
theorem st_arr {args : Array Value} {ty : FieldType} (h : (Cond.arrayClass ty).before args s = true) : ∃ cA : ClassId, ArrOfT s cA ty ∧ s.vm.findClass ("[" ++ ty.toString) = some cA := by
  obtain ⟨cA, kA, comp, h1, h2, h3⟩ := Cond.arrayClass_spec (args := args) (first := s) (o := none) (s := s) (idx := []) (type := ty) h
  exact ⟨cA, fun n z => ⟨(fun k h => by cases h), kA, h2, comp, h3⟩, h1⟩
theorem st_arq {args : Array Value} {C : String} (h : (Cond.arrayOver (.object C)).before args s = true) : ∃ cA : ClassId, ArrOfT s cA (.object C) ∧ va_RA s cA (.object C) := by
  obtain ⟨comp, cA, kA, f4, -, f2, f3, f1⟩ := Cond.arrayOver_spec (args := args) (first := s) (o := none) (s := s) (idx := []) (n := C) h
  exact ⟨cA, fun n z => ⟨(fun k h => by cases h), kA, f2, comp, f3⟩, kA, comp, f2, f3, f4, f1⟩
set_option maxHeartbeats 4000000 in
set_option maxRecDepth 100000 in
theorem st_K (C0 : lw_At p s m meth c b L xs) : ∃ (G : va_G) (T : Nat → ClassId), va_K G vwCl (tyL T) s := by
  have hts := st_w C0
  obtain ⟨c0, i0, hk0⟩ := u_known (C := RX0) (T := TX0) (N := 3) (n := 3) hts lw_inwsX00 (hts (.instantiable RX0 3) (tI (i := 143) (by decide +kernel)))
  obtain ⟨c1, i1, hk1⟩ := u_known (C := RX1) (T := TX1) (N := 3) (n := 3) hts lw_inwsX10 (hts (.instantiable RX1 3) (tI (i := 107) (by decide +kernel)))
  obtain ⟨c2, i2, hk2⟩ := u_known (C := RX2) (T := TX2) (N := 5) (n := 5) hts lw_inwsX20 (hts (.instantiable RX2 5) (tI (i := 197) (by decide +kernel)))
  obtain ⟨c3, i3, hk3⟩ := u_known (C := RX3) (T := TX3) (N := 16) (n := 16) hts lw_inwsX30 (hts (.instantiable RX3 16) (tI (i := 33) (by decide +kernel)))
  obtain ⟨c4, i4, hk4⟩ := u_known (C := RX4) (T := TX4) (N := 3) (n := 3) hts lw_inwsX40 (hts (.instantiable RX4 3) (tI (i := 180) (by decide +kernel)))
  obtain ⟨c5, i5, hk5⟩ := u_known (C := RX5) (T := TX5) (N := 2) (n := 2) hts lw_inwsX50 (hts (.instantiable RX5 2) (tI (i := 127) (by decide +kernel)))
  obtain ⟨c6, i6, hk6⟩ := u_known (C := RX6) (T := TX6) (N := 3) (n := 3) hts lw_inwsX60 (hts (.instantiable RX6 3) (tI (i := 159) (by decide +kernel)))
  obtain ⟨c7, i7, hk7⟩ := u_known (C := RX7) (T := TX7) (N := 9) (n := 9) hts lw_inwsX70 (hts (.instantiable RX7 9) (tI (i := 25) (by decide +kernel)))
  obtain ⟨t0, a0, b0⟩ := st_arr (hts (.arrayClass .int) (tI (i := 105) (by decide +kernel)))
  obtain ⟨t1, a1, b1⟩ := st_arr (hts (.arrayClass .char) (tI (i := 141) (by decide +kernel)))
  obtain ⟨t2, a2, b2⟩ := st_arq (hts (.arrayOver (.object RX3)) (tI (i := 113) (by decide +kernel)))
  refine ⟨(fun k => if k = 0 then c0 else if k = 1 then c1 else if k = 2 then c2 else if k = 3 then c3 else if k = 4 then c4 else if k = 5 then c5 else if k = 6 then c6 else c7, fun k => if k = 0 then i0 else if k = 1 then i1 else if k = 2 then i2 else if k = 3 then i3 else if k = 4 then i4 else if k = 5 then i5 else if k = 6 then i6 else i7), fun k => if k = 0 then t0 else if k = 1 then t1 else t2, ?_, ?_⟩
  · intro k q hq
    match k, hq with
    | 0, hq => cases hq; exact hk0
    | 1, hq => cases hq; exact hk1
    | 2, hq => cases hq; exact hk2
    | 3, hq => cases hq; exact hk3
    | 4, hq => cases hq; exact hk4
    | 5, hq => cases hq; exact hk5
    | 6, hq => cases hq; exact hk6
    | 7, hq => cases hq; exact hk7
    | k + 8, hq => simp [vwCl] at hq
  · intro k q hq
    match k, hq with
    | 0, hq => cases hq; exact ⟨a0, b0⟩
    | 1, hq => cases hq; exact ⟨a1, b1⟩
    | 2, hq => cases hq; exact ⟨a2, b2⟩
    | k + 3, hq => simp [tyL] at hq
end START
