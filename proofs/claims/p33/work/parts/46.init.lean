/-! constructors of History and WhistleTunes (printed by wip/p33/gcon2.py) -/
theorem wCq_ext {cA : ClassId} {n : Nat} {f f' : Nat → Option Nat} (h : ∀ j : Nat, j < n → f j = f' j) : vp_cell cA (n, .inr (.inr (.inr (.inr f)))) = vp_cell cA (n, .inr (.inr (.inr (.inr f')))) := by
  rw [vp_cell_q, vp_cell_q]
  unfold arrV
  have e : (fun j : Fin n => va_rf (f j.val)) = (fun j : Fin n => va_rf (f' j.val)) := funext fun j => by rw [h j.val j.isLt]
  show ({ cls := cA, slots := Array.ofFn (n := n) (fun j : Fin n => va_rf (f j.val)), vm := .none } : Cell) = { cls := cA, slots := Array.ofFn (n := n) (fun j : Fin n => va_rf (f' j.val)), vm := .none }
  rw [e]
theorem wPq_ext {D : va_G} {cl : List vw_C} {tail : va_W} {c0 : Nat × va_E} {a n : Nat} {cA : ClassId} {f f' : Nat → Option Nat} {H : Heap} (hP : va_P D cl (c0 :: (a, .inl (cA, n, .inr (.inr (.inr (.inr f))))) :: tail) H) (h : ∀ j : Nat, j < n → f j = f' j) : va_P D cl (c0 :: (a, .inl (cA, n, .inr (.inr (.inr (.inr f'))))) :: tail) H := by
  intro k q hk
  match k, hk with
  | 0, hk => exact hP 0 q hk
  | 1, hk =>
    have h1 := hP 1 _ rfl
    cases hk
    show H[a]? = some (vp_cell cA (n, .inr (.inr (.inr (.inr f')))))
    rw [← wCq_ext h]
    exact h1
  | k + 2, hk => exact hP (k + 2) q hk
/-- addresses of all that WhistleTunes has: its own, school, snapshot, history, the history's schools, text, grammar, tune, tree, outcome -/
abbrev CA : Type := (Nat → Nat) × (Nat → Nat) × (Nat → Nat) × (Nat → Nat) × (Nat → Nat → Nat) × (Nat → Nat) × (Nat → Nat) × (Nat → Nat) × (Nat → Nat) × (Nat → Nat)
/-- contents: own, school, snapshot, history, the history's schools, text, grammar, tune, tree, outcome -/
abbrev CC : Type := (Nat → Nat → Int32) × (Nat → Nat → Int32) × (Nat → Nat → Int32) × (Nat → Nat → Int32) × (Nat → Nat → Nat → Int32) × (Nat → Nat → Int32) × (Nat → Nat → Int32) × (Nat → Nat → Int32) × (Nat → Nat → Int32) × (Nat → Nat → Int32)
/-- WhistleTunes as a whole -/
def oCC (T : Nat → ClassId) (a : CA) (c : CC) : va_W := oX7 a.1 a.2.1 a.2.2.1 a.2.2.2.1 a.2.2.2.2.2.1 a.2.2.2.2.2.2.1 a.2.2.2.2.2.2.2.1 a.2.2.2.2.2.2.2.2.1 a.2.2.2.2.2.2.2.2.2 c.1 ++ (oX3 T a.2.1 c.2.1 ++ oX3 T a.2.2.1 c.2.2.1 ++ oX1 T a.2.2.2.1 a.2.2.2.2.1 c.2.2.2.1 c.2.2.2.2.1 ++ oX5 T a.2.2.2.2.2.1 c.2.2.2.2.2.1 ++ oX0 T a.2.2.2.2.2.2.1 c.2.2.2.2.2.2.1 ++ oX6 T a.2.2.2.2.2.2.2.1 c.2.2.2.2.2.2.2.1 ++ oX4 T a.2.2.2.2.2.2.2.2.1 c.2.2.2.2.2.2.2.2.1 ++ oX2 T a.2.2.2.2.2.2.2.2.2 c.2.2.2.2.2.2.2.2.2)
/-- a new WhistleTunes -/
def cc0 : CC := (fun _ _ => 0, iZX3, iZX3, fun _ _ => 0, fun _ => iZX3, iZX5, iZX0, iZX6, iZX4, iZX2)

set_option maxHeartbeats 8000000 in
set_option maxRecDepth 100000 in
theorem c_X1_init (l : Launch) (G : va_G) (T : Nat → ClassId) (sz b : Nat) : RWn l yX1_init wsX1_init 3 79 1746 G T sz [(b, .inr (1, [.null, .int 0, .int 0]))] [.ref b] (fun u : (Nat → Nat) × (Nat → Nat → Nat) => u.1 0 = b) (fun u => oX1 T u.1 u.2 (fun _ _ => 0) (fun _ => iZX3)) := by
  refine Met.ofW (cc := cX1_init) (maxL := 2) (ret := none) (by decide) rfl ?_
  intro p e s m args below meth c s₁ B hml hv
  obtain ⟨ha, ⟨hsz, hP, hK, hD0, hE0⟩, hO⟩ := hv
  have hx := B.exec
  have hb := B.bytes
  have hr := B.returns
  have hlocks := B.notSynchronized
  have hin2 : meth.name = "<init>" := (name_of_methodNamed B.named B.method).1
  have hts := atoms_spec (ws := wsX1_init) B.pre
  have hown : s.vm.findClass RX1 = some m.cls := findClass_of_methodNamed B.named
  have cx : CallFix p m c cX1_init 2 s args wsX1_init RX1 := ⟨hx, hb, hml, hown, hts⟩
  subst hsz
  have hD := hD0.self (sz := s.heap.size)
  generalize hAe : va_A [(b, .inr (1, [.null, .int 0, .int 0]))] s.heap.size = A at hD hE0 ⊢
  have hE : gE A s s.heap := hE0
  have hA : ∀ q : Nat, s.heap.size ≤ q → A q := fun q h => by rw [← hAe]; exact Or.inr h
  have hS : va_S A s.heap s.heap [] := va_S.rf
  have hinX1 : ∀ w ∈ wsX10, w ∈ wsX1_init := by decide +kernel
  refine w_entry ha (Nat.le_of_ble_eq_true rfl) (fun ls hl => ?_)
  refine w_q (fun Q0 hQ => ?_)
  have hl : lv_has ls 2 [(0, .ref b)] := hl
  refine w_h (fun H locs hHe hLe => ?_)
  have hP : va_P G vwCl [(b, .inr (1, [.null, .int 0, .int 0]))] H := by rw [hHe]; exact hP
  have hS : va_S A s.heap H locs := by rw [hHe, hLe]; exact hS
  refine lv_aload_n hx hb dX1_init_0 rfl (lv_at hl 0 rfl) ?_
  refine W.objInit hx hb hown (hts (.methodLink RX1 3 objectInit) (by decide +kernel)) (hts (.instanceMethod objectInit) (by decide +kernel)) (hts _ (List.mem_of_getElem? (i := 3) rfl)) rfl (by rw [hml]; exact hl.1) rfl dX1_init_1 (Nat.le_of_ble_eq_true rfl) (Nat.le_of_ble_eq_true rfl) ?_
  refine W.eq (g2 := F0 m 4 ls []) rfl ?_
  refine lv_aload_n hx hb dX1_init_4 rfl (lv_at hl 0 rfl) ?_
  refine lv_bipush (v := nI 6) hx hb dX1_init_5 (by decide) ?_
  refine n_newq hx hb hown (hts (.classLink RX1 9 RX3) (by decide +kernel)) hO hK hP hD hS hA 6 (by decide) (Nat.le_of_ble_eq_true rfl) (Nat.le_of_ble_eq_true rfl) (Nat.le_of_ble_eq_true rfl) dX1_init_7 (fun q7 H hP hD hS => ?_)
  have hP : va_P G vwCl ([(b, .inr (1, [.null, .int 0, .int 0])), (q7, .inl (T 2, 6, .inr (.inr (.inr (.inr (fun _ => none))))))]) H := hP
  have hD : va_D A ([(b, .inr (1, [.null, .int 0, .int 0])), (q7, .inl (T 2, 6, .inr (.inr (.inr (.inr (fun _ => none))))))]) := hD
  refine va_putF (D := G) (ci := 1) (v := .ref q7) (ty := .array (.object "WhistleTunes$School")) (C := RX1) (T := TX1) (N := 3) hx hb hts hinX1 tyX1 tyX1_ok nmX1 hown hK hP hD hS 0 rfl rfl 0 (by decide) (hts (.fieldLink RX1 11 "WhistleTunes$History" "states" "[LWhistleTunes$School;") (by decide +kernel)) (fun _ h9 => h9) rfl hin2 rfl (by decide +kernel) rfl rfl (Nat.le_of_ble_eq_true rfl) dX1_init_10 (fun H locs hP hD hS => ?_)
  have hP : va_P G vwCl ([(b, .inr (1, [.ref q7, .int 0, .int 0])), (q7, .inl (T 2, 6, .inr (.inr (.inr (.inr (fun _ => none))))))]) H := hP
  have hD : va_D A ([(b, .inr (1, [.ref q7, .int 0, .int 0])), (q7, .inl (T 2, 6, .inr (.inr (.inr (.inr (fun _ => none))))))]) := hD
  refine n_iconst hx hb 0 dX1_init_13 (by decide) ?_
  refine lv_istore_n (lv' := [(1, .int (nI 0)), (0, .ref b)]) hx hb dX1_init_14 rfl hl (by decide) rfl (fun ls hl => ?_)
  refine lv_iload_n hx hb dX1_init_15 rfl (lv_at hl 0 rfl) ?_
  refine lv_bipush (v := nI 6) hx hb dX1_init_16 (by decide) ?_
  refine n_icmp_ge (a := 0) (b := 6) (tgt := 40) hx hb (by decide) (by decide) dX1_init_18 (by decide) (fun h9 => absurd h9 (by decide)) (fun _ => ?_)
  refine lv_aload_n hx hb dX1_init_21 rfl (lv_at hl 1 rfl) ?_
  refine va_get (D := G) (ci := 1) (v := .ref q7) (C := RX1) (T := TX1) (N := 3) hx hb hts hinX1 hown hK hP 0 rfl rfl 0 (by decide) (hts (.fieldLink RX1 11 "WhistleTunes$History" "states" "[LWhistleTunes$School;") (by decide +kernel)) (fun _ h9 => h9) rfl dX1_init_22 ?_
  refine lv_iload_n hx hb dX1_init_25 rfl (lv_at hl 0 rfl) ?_
  have hinX3 : ∀ w ∈ wsX30, w ∈ wsX1_init := by decide +kernel
  refine va_new (ci := 3) (fs := [.int 0, .int 0, .int 0, .int 0, .null, .null, .null, .null, .null, .null, .null, .null, .null, .null, .null, .null]) (C := RX3) (T := TX3) (N := 16) hx hb hts hinX3 tyX3 tyX3_ok hown (hts (.classLink RX1 9 RX3) (by decide +kernel)) (hts (.instantiable RX3 16) (by decide +kernel)) (hts (.initialized RX3) (by decide +kernel)) hK hP hD hS hA rfl (fun j hj => by rcases (show j = 0 ∨ j = 1 ∨ j = 2 ∨ j = 3 ∨ j = 4 ∨ j = 5 ∨ j = 6 ∨ j = 7 ∨ j = 8 ∨ j = 9 ∨ j = 10 ∨ j = 11 ∨ j = 12 ∨ j = 13 ∨ j = 14 ∨ j = 15 by omega) with rfl | rfl | rfl | rfl | rfl | rfl | rfl | rfl | rfl | rfl | rfl | rfl | rfl | rfl | rfl | rfl <;> rfl) (Nat.le_of_ble_eq_true rfl) (Nat.le_of_ble_eq_true rfl) dX1_init_26 (fun q26_1 H hP hD hS => ?_)
  refine lv_dup hx hb dX1_init_29 rfl ?_
  refine k_rnN (Wr := [(b, .inr (1, [.ref q7, .int 0, .int 0])), (q7, .inl (T 2, 6, .inr (.inr (.inr (.inr (fun _ => none))))))]) (rest := [.ref q26_1, .int (nI 0), .ref q7]) (d := 1) (mc := 12) (ms := 274) cx (c_X3_init l G T H.size q26_1) ⟨va_cnB 0 hts gX1_init_X3_init_n17 rfl rfl rfl (hE.1 (RX1, 17, yX3_init) (by decide +kernel)) (hts (.initialized RX3) (by decide +kernel)) (by decide +kernel) ⟨Nat.le_of_ble_eq_true rfl, Nat.le_of_ble_eq_true rfl⟩, rfl, hts (.instanceMethod yX3_init) (by decide +kernel)⟩ hP hD hS hA hE hK hO hl.1 rfl (Nat.le_of_ble_eq_true rfl) dX1_init_30 ⟨Nat.le_of_ble_eq_true rfl, Nat.le_of_ble_eq_true rfl⟩ (fun u26_1 H locs hu26_1 hP hD hS => ?_)
  rw [← hu26_1]
  have hP : va_P G vwCl ((b, .inr (1, [.ref q7, .int 0, .int 0])) :: (q7, .inl (T 2, 6, .inr (.inr (.inr (.inr (fun _ => none)))))) :: (oX3 T u26_1 iZX3)) H := hP
  have hD : va_D A ((b, .inr (1, [.ref q7, .int 0, .int 0])) :: (q7, .inl (T 2, 6, .inr (.inr (.inr (.inr (fun _ => none)))))) :: (oX3 T u26_1 iZX3)) := hD
  refine va_astq hx hb hK hP hD hS 1 2 2 3 rfl rfl rfl rfl (vp_in_nI (show 0 < 6 by decide) (by decide)) dX1_init_33 (fun H locs hP hD hS => ?_)
  rw [nI_clamp (by decide)] at hP hD
  have hP : va_P G vwCl ((b, .inr (1, [.ref q7, .int 0, .int 0])) :: (q7, .inl (T 2, 6, .inr (.inr (.inr (.inr (va_up (fun _ => none) 0 (some (u26_1 0)))))))) :: (oX3 T u26_1 iZX3)) H := hP
  have hD : va_D A ((b, .inr (1, [.ref q7, .int 0, .int 0])) :: (q7, .inl (T 2, 6, .inr (.inr (.inr (.inr (va_up (fun _ => none) 0 (some (u26_1 0)))))))) :: (oX3 T u26_1 iZX3)) := hD
  refine lv_iinc (v := nI 1) (lv' := [(1, .int (nI 1)), (0, .ref b)]) hx hb dX1_init_34 hl (k := 0) rfl (n_inc 0 1 rfl) (by decide) rfl (fun ls hl => ?_)
  refine lv_goto (tgt := 15) hx hb dX1_init_37 (by decide) ?_
  refine lv_iload_n hx hb dX1_init_15 rfl (lv_at hl 0 rfl) ?_
  refine lv_bipush (v := nI 6) hx hb dX1_init_16 (by decide) ?_
  refine n_icmp_ge (a := 1) (b := 6) (tgt := 40) hx hb (by decide) (by decide) dX1_init_18 (by decide) (fun h9 => absurd h9 (by decide)) (fun _ => ?_)
  refine lv_aload_n hx hb dX1_init_21 rfl (lv_at hl 1 rfl) ?_
  refine va_get (D := G) (ci := 1) (v := .ref q7) (C := RX1) (T := TX1) (N := 3) hx hb hts hinX1 hown hK hP 0 rfl rfl 0 (by decide) (hts (.fieldLink RX1 11 "WhistleTunes$History" "states" "[LWhistleTunes$School;") (by decide +kernel)) (fun _ h9 => h9) rfl dX1_init_22 ?_
  refine lv_iload_n hx hb dX1_init_25 rfl (lv_at hl 0 rfl) ?_
  refine va_new (ci := 3) (fs := [.int 0, .int 0, .int 0, .int 0, .null, .null, .null, .null, .null, .null, .null, .null, .null, .null, .null, .null]) (C := RX3) (T := TX3) (N := 16) hx hb hts hinX3 tyX3 tyX3_ok hown (hts (.classLink RX1 9 RX3) (by decide +kernel)) (hts (.instantiable RX3 16) (by decide +kernel)) (hts (.initialized RX3) (by decide +kernel)) hK hP hD hS hA rfl (fun j hj => by rcases (show j = 0 ∨ j = 1 ∨ j = 2 ∨ j = 3 ∨ j = 4 ∨ j = 5 ∨ j = 6 ∨ j = 7 ∨ j = 8 ∨ j = 9 ∨ j = 10 ∨ j = 11 ∨ j = 12 ∨ j = 13 ∨ j = 14 ∨ j = 15 by omega) with rfl | rfl | rfl | rfl | rfl | rfl | rfl | rfl | rfl | rfl | rfl | rfl | rfl | rfl | rfl | rfl <;> rfl) (Nat.le_of_ble_eq_true rfl) (Nat.le_of_ble_eq_true rfl) dX1_init_26 (fun q26_2 H hP hD hS => ?_)
  refine lv_dup hx hb dX1_init_29 rfl ?_
  refine k_rnN (Wr := (b, .inr (1, [.ref q7, .int 0, .int 0])) :: (q7, .inl (T 2, 6, .inr (.inr (.inr (.inr (va_up (fun _ => none) 0 (some (u26_1 0)))))))) :: (oX3 T u26_1 iZX3)) (rest := [.ref q26_2, .int (nI 1), .ref q7]) (d := 1) (mc := 12) (ms := 274) cx (c_X3_init l G T H.size q26_2) ⟨va_cnB 0 hts gX1_init_X3_init_n17 rfl rfl rfl (hE.1 (RX1, 17, yX3_init) (by decide +kernel)) (hts (.initialized RX3) (by decide +kernel)) (by decide +kernel) ⟨Nat.le_of_ble_eq_true rfl, Nat.le_of_ble_eq_true rfl⟩, rfl, hts (.instanceMethod yX3_init) (by decide +kernel)⟩ hP hD hS hA hE hK hO hl.1 rfl (Nat.le_of_ble_eq_true rfl) dX1_init_30 ⟨Nat.le_of_ble_eq_true rfl, Nat.le_of_ble_eq_true rfl⟩ (fun u26_2 H locs hu26_2 hP hD hS => ?_)
  rw [← hu26_2]
  have hP : va_P G vwCl ((b, .inr (1, [.ref q7, .int 0, .int 0])) :: (q7, .inl (T 2, 6, .inr (.inr (.inr (.inr (va_up (fun _ => none) 0 (some (u26_1 0)))))))) :: ((oX3 T u26_1 iZX3) ++ oX3 T u26_2 iZX3)) H := hP
  have hD : va_D A ((b, .inr (1, [.ref q7, .int 0, .int 0])) :: (q7, .inl (T 2, 6, .inr (.inr (.inr (.inr (va_up (fun _ => none) 0 (some (u26_1 0)))))))) :: ((oX3 T u26_1 iZX3) ++ oX3 T u26_2 iZX3)) := hD
  refine va_astq hx hb hK hP hD hS 1 2 15 3 rfl rfl rfl rfl (vp_in_nI (show 1 < 6 by decide) (by decide)) dX1_init_33 (fun H locs hP hD hS => ?_)
  rw [nI_clamp (by decide)] at hP hD
  have hP : va_P G vwCl ((b, .inr (1, [.ref q7, .int 0, .int 0])) :: (q7, .inl (T 2, 6, .inr (.inr (.inr (.inr (va_up (va_up (fun _ => none) 0 (some (u26_1 0))) 1 (some (u26_2 0)))))))) :: ((oX3 T u26_1 iZX3) ++ oX3 T u26_2 iZX3)) H := hP
  have hD : va_D A ((b, .inr (1, [.ref q7, .int 0, .int 0])) :: (q7, .inl (T 2, 6, .inr (.inr (.inr (.inr (va_up (va_up (fun _ => none) 0 (some (u26_1 0))) 1 (some (u26_2 0)))))))) :: ((oX3 T u26_1 iZX3) ++ oX3 T u26_2 iZX3)) := hD
  refine lv_iinc (v := nI 2) (lv' := [(1, .int (nI 2)), (0, .ref b)]) hx hb dX1_init_34 hl (k := 0) rfl (n_inc 1 1 rfl) (by decide) rfl (fun ls hl => ?_)
  refine lv_goto (tgt := 15) hx hb dX1_init_37 (by decide) ?_
  refine lv_iload_n hx hb dX1_init_15 rfl (lv_at hl 0 rfl) ?_
  refine lv_bipush (v := nI 6) hx hb dX1_init_16 (by decide) ?_
  refine n_icmp_ge (a := 2) (b := 6) (tgt := 40) hx hb (by decide) (by decide) dX1_init_18 (by decide) (fun h9 => absurd h9 (by decide)) (fun _ => ?_)
  refine lv_aload_n hx hb dX1_init_21 rfl (lv_at hl 1 rfl) ?_
  refine va_get (D := G) (ci := 1) (v := .ref q7) (C := RX1) (T := TX1) (N := 3) hx hb hts hinX1 hown hK hP 0 rfl rfl 0 (by decide) (hts (.fieldLink RX1 11 "WhistleTunes$History" "states" "[LWhistleTunes$School;") (by decide +kernel)) (fun _ h9 => h9) rfl dX1_init_22 ?_
  refine lv_iload_n hx hb dX1_init_25 rfl (lv_at hl 0 rfl) ?_
  refine va_new (ci := 3) (fs := [.int 0, .int 0, .int 0, .int 0, .null, .null, .null, .null, .null, .null, .null, .null, .null, .null, .null, .null]) (C := RX3) (T := TX3) (N := 16) hx hb hts hinX3 tyX3 tyX3_ok hown (hts (.classLink RX1 9 RX3) (by decide +kernel)) (hts (.instantiable RX3 16) (by decide +kernel)) (hts (.initialized RX3) (by decide +kernel)) hK hP hD hS hA rfl (fun j hj => by rcases (show j = 0 ∨ j = 1 ∨ j = 2 ∨ j = 3 ∨ j = 4 ∨ j = 5 ∨ j = 6 ∨ j = 7 ∨ j = 8 ∨ j = 9 ∨ j = 10 ∨ j = 11 ∨ j = 12 ∨ j = 13 ∨ j = 14 ∨ j = 15 by omega) with rfl | rfl | rfl | rfl | rfl | rfl | rfl | rfl | rfl | rfl | rfl | rfl | rfl | rfl | rfl | rfl <;> rfl) (Nat.le_of_ble_eq_true rfl) (Nat.le_of_ble_eq_true rfl) dX1_init_26 (fun q26_3 H hP hD hS => ?_)
  refine lv_dup hx hb dX1_init_29 rfl ?_
  refine k_rnN (Wr := (b, .inr (1, [.ref q7, .int 0, .int 0])) :: (q7, .inl (T 2, 6, .inr (.inr (.inr (.inr (va_up (va_up (fun _ => none) 0 (some (u26_1 0))) 1 (some (u26_2 0)))))))) :: ((oX3 T u26_1 iZX3) ++ oX3 T u26_2 iZX3)) (rest := [.ref q26_3, .int (nI 2), .ref q7]) (d := 1) (mc := 12) (ms := 274) cx (c_X3_init l G T H.size q26_3) ⟨va_cnB 0 hts gX1_init_X3_init_n17 rfl rfl rfl (hE.1 (RX1, 17, yX3_init) (by decide +kernel)) (hts (.initialized RX3) (by decide +kernel)) (by decide +kernel) ⟨Nat.le_of_ble_eq_true rfl, Nat.le_of_ble_eq_true rfl⟩, rfl, hts (.instanceMethod yX3_init) (by decide +kernel)⟩ hP hD hS hA hE hK hO hl.1 rfl (Nat.le_of_ble_eq_true rfl) dX1_init_30 ⟨Nat.le_of_ble_eq_true rfl, Nat.le_of_ble_eq_true rfl⟩ (fun u26_3 H locs hu26_3 hP hD hS => ?_)
  rw [← hu26_3]
  have hP : va_P G vwCl ((b, .inr (1, [.ref q7, .int 0, .int 0])) :: (q7, .inl (T 2, 6, .inr (.inr (.inr (.inr (va_up (va_up (fun _ => none) 0 (some (u26_1 0))) 1 (some (u26_2 0)))))))) :: (((oX3 T u26_1 iZX3) ++ oX3 T u26_2 iZX3) ++ oX3 T u26_3 iZX3)) H := hP
  have hD : va_D A ((b, .inr (1, [.ref q7, .int 0, .int 0])) :: (q7, .inl (T 2, 6, .inr (.inr (.inr (.inr (va_up (va_up (fun _ => none) 0 (some (u26_1 0))) 1 (some (u26_2 0)))))))) :: (((oX3 T u26_1 iZX3) ++ oX3 T u26_2 iZX3) ++ oX3 T u26_3 iZX3)) := hD
  refine va_astq hx hb hK hP hD hS 1 2 28 3 rfl rfl rfl rfl (vp_in_nI (show 2 < 6 by decide) (by decide)) dX1_init_33 (fun H locs hP hD hS => ?_)
  rw [nI_clamp (by decide)] at hP hD
  have hP : va_P G vwCl ((b, .inr (1, [.ref q7, .int 0, .int 0])) :: (q7, .inl (T 2, 6, .inr (.inr (.inr (.inr (va_up (va_up (va_up (fun _ => none) 0 (some (u26_1 0))) 1 (some (u26_2 0))) 2 (some (u26_3 0)))))))) :: (((oX3 T u26_1 iZX3) ++ oX3 T u26_2 iZX3) ++ oX3 T u26_3 iZX3)) H := hP
  have hD : va_D A ((b, .inr (1, [.ref q7, .int 0, .int 0])) :: (q7, .inl (T 2, 6, .inr (.inr (.inr (.inr (va_up (va_up (va_up (fun _ => none) 0 (some (u26_1 0))) 1 (some (u26_2 0))) 2 (some (u26_3 0)))))))) :: (((oX3 T u26_1 iZX3) ++ oX3 T u26_2 iZX3) ++ oX3 T u26_3 iZX3)) := hD
  refine lv_iinc (v := nI 3) (lv' := [(1, .int (nI 3)), (0, .ref b)]) hx hb dX1_init_34 hl (k := 0) rfl (n_inc 2 1 rfl) (by decide) rfl (fun ls hl => ?_)
  refine lv_goto (tgt := 15) hx hb dX1_init_37 (by decide) ?_
  refine lv_iload_n hx hb dX1_init_15 rfl (lv_at hl 0 rfl) ?_
  refine lv_bipush (v := nI 6) hx hb dX1_init_16 (by decide) ?_
  refine n_icmp_ge (a := 3) (b := 6) (tgt := 40) hx hb (by decide) (by decide) dX1_init_18 (by decide) (fun h9 => absurd h9 (by decide)) (fun _ => ?_)
  refine lv_aload_n hx hb dX1_init_21 rfl (lv_at hl 1 rfl) ?_
  refine va_get (D := G) (ci := 1) (v := .ref q7) (C := RX1) (T := TX1) (N := 3) hx hb hts hinX1 hown hK hP 0 rfl rfl 0 (by decide) (hts (.fieldLink RX1 11 "WhistleTunes$History" "states" "[LWhistleTunes$School;") (by decide +kernel)) (fun _ h9 => h9) rfl dX1_init_22 ?_
  refine lv_iload_n hx hb dX1_init_25 rfl (lv_at hl 0 rfl) ?_
  refine va_new (ci := 3) (fs := [.int 0, .int 0, .int 0, .int 0, .null, .null, .null, .null, .null, .null, .null, .null, .null, .null, .null, .null]) (C := RX3) (T := TX3) (N := 16) hx hb hts hinX3 tyX3 tyX3_ok hown (hts (.classLink RX1 9 RX3) (by decide +kernel)) (hts (.instantiable RX3 16) (by decide +kernel)) (hts (.initialized RX3) (by decide +kernel)) hK hP hD hS hA rfl (fun j hj => by rcases (show j = 0 ∨ j = 1 ∨ j = 2 ∨ j = 3 ∨ j = 4 ∨ j = 5 ∨ j = 6 ∨ j = 7 ∨ j = 8 ∨ j = 9 ∨ j = 10 ∨ j = 11 ∨ j = 12 ∨ j = 13 ∨ j = 14 ∨ j = 15 by omega) with rfl | rfl | rfl | rfl | rfl | rfl | rfl | rfl | rfl | rfl | rfl | rfl | rfl | rfl | rfl | rfl <;> rfl) (Nat.le_of_ble_eq_true rfl) (Nat.le_of_ble_eq_true rfl) dX1_init_26 (fun q26_4 H hP hD hS => ?_)
  refine lv_dup hx hb dX1_init_29 rfl ?_
  refine k_rnN (Wr := (b, .inr (1, [.ref q7, .int 0, .int 0])) :: (q7, .inl (T 2, 6, .inr (.inr (.inr (.inr (va_up (va_up (va_up (fun _ => none) 0 (some (u26_1 0))) 1 (some (u26_2 0))) 2 (some (u26_3 0)))))))) :: (((oX3 T u26_1 iZX3) ++ oX3 T u26_2 iZX3) ++ oX3 T u26_3 iZX3)) (rest := [.ref q26_4, .int (nI 3), .ref q7]) (d := 1) (mc := 12) (ms := 274) cx (c_X3_init l G T H.size q26_4) ⟨va_cnB 0 hts gX1_init_X3_init_n17 rfl rfl rfl (hE.1 (RX1, 17, yX3_init) (by decide +kernel)) (hts (.initialized RX3) (by decide +kernel)) (by decide +kernel) ⟨Nat.le_of_ble_eq_true rfl, Nat.le_of_ble_eq_true rfl⟩, rfl, hts (.instanceMethod yX3_init) (by decide +kernel)⟩ hP hD hS hA hE hK hO hl.1 rfl (Nat.le_of_ble_eq_true rfl) dX1_init_30 ⟨Nat.le_of_ble_eq_true rfl, Nat.le_of_ble_eq_true rfl⟩ (fun u26_4 H locs hu26_4 hP hD hS => ?_)
  rw [← hu26_4]
  have hP : va_P G vwCl ((b, .inr (1, [.ref q7, .int 0, .int 0])) :: (q7, .inl (T 2, 6, .inr (.inr (.inr (.inr (va_up (va_up (va_up (fun _ => none) 0 (some (u26_1 0))) 1 (some (u26_2 0))) 2 (some (u26_3 0)))))))) :: ((((oX3 T u26_1 iZX3) ++ oX3 T u26_2 iZX3) ++ oX3 T u26_3 iZX3) ++ oX3 T u26_4 iZX3)) H := hP
  have hD : va_D A ((b, .inr (1, [.ref q7, .int 0, .int 0])) :: (q7, .inl (T 2, 6, .inr (.inr (.inr (.inr (va_up (va_up (va_up (fun _ => none) 0 (some (u26_1 0))) 1 (some (u26_2 0))) 2 (some (u26_3 0)))))))) :: ((((oX3 T u26_1 iZX3) ++ oX3 T u26_2 iZX3) ++ oX3 T u26_3 iZX3) ++ oX3 T u26_4 iZX3)) := hD
  refine va_astq hx hb hK hP hD hS 1 2 41 3 rfl rfl rfl rfl (vp_in_nI (show 3 < 6 by decide) (by decide)) dX1_init_33 (fun H locs hP hD hS => ?_)
  rw [nI_clamp (by decide)] at hP hD
  have hP : va_P G vwCl ((b, .inr (1, [.ref q7, .int 0, .int 0])) :: (q7, .inl (T 2, 6, .inr (.inr (.inr (.inr (va_up (va_up (va_up (va_up (fun _ => none) 0 (some (u26_1 0))) 1 (some (u26_2 0))) 2 (some (u26_3 0))) 3 (some (u26_4 0)))))))) :: ((((oX3 T u26_1 iZX3) ++ oX3 T u26_2 iZX3) ++ oX3 T u26_3 iZX3) ++ oX3 T u26_4 iZX3)) H := hP
  have hD : va_D A ((b, .inr (1, [.ref q7, .int 0, .int 0])) :: (q7, .inl (T 2, 6, .inr (.inr (.inr (.inr (va_up (va_up (va_up (va_up (fun _ => none) 0 (some (u26_1 0))) 1 (some (u26_2 0))) 2 (some (u26_3 0))) 3 (some (u26_4 0)))))))) :: ((((oX3 T u26_1 iZX3) ++ oX3 T u26_2 iZX3) ++ oX3 T u26_3 iZX3) ++ oX3 T u26_4 iZX3)) := hD
  refine lv_iinc (v := nI 4) (lv' := [(1, .int (nI 4)), (0, .ref b)]) hx hb dX1_init_34 hl (k := 0) rfl (n_inc 3 1 rfl) (by decide) rfl (fun ls hl => ?_)
  refine lv_goto (tgt := 15) hx hb dX1_init_37 (by decide) ?_
  refine lv_iload_n hx hb dX1_init_15 rfl (lv_at hl 0 rfl) ?_
  refine lv_bipush (v := nI 6) hx hb dX1_init_16 (by decide) ?_
  refine n_icmp_ge (a := 4) (b := 6) (tgt := 40) hx hb (by decide) (by decide) dX1_init_18 (by decide) (fun h9 => absurd h9 (by decide)) (fun _ => ?_)
  refine lv_aload_n hx hb dX1_init_21 rfl (lv_at hl 1 rfl) ?_
  refine va_get (D := G) (ci := 1) (v := .ref q7) (C := RX1) (T := TX1) (N := 3) hx hb hts hinX1 hown hK hP 0 rfl rfl 0 (by decide) (hts (.fieldLink RX1 11 "WhistleTunes$History" "states" "[LWhistleTunes$School;") (by decide +kernel)) (fun _ h9 => h9) rfl dX1_init_22 ?_
  refine lv_iload_n hx hb dX1_init_25 rfl (lv_at hl 0 rfl) ?_
  refine va_new (ci := 3) (fs := [.int 0, .int 0, .int 0, .int 0, .null, .null, .null, .null, .null, .null, .null, .null, .null, .null, .null, .null]) (C := RX3) (T := TX3) (N := 16) hx hb hts hinX3 tyX3 tyX3_ok hown (hts (.classLink RX1 9 RX3) (by decide +kernel)) (hts (.instantiable RX3 16) (by decide +kernel)) (hts (.initialized RX3) (by decide +kernel)) hK hP hD hS hA rfl (fun j hj => by rcases (show j = 0 ∨ j = 1 ∨ j = 2 ∨ j = 3 ∨ j = 4 ∨ j = 5 ∨ j = 6 ∨ j = 7 ∨ j = 8 ∨ j = 9 ∨ j = 10 ∨ j = 11 ∨ j = 12 ∨ j = 13 ∨ j = 14 ∨ j = 15 by omega) with rfl | rfl | rfl | rfl | rfl | rfl | rfl | rfl | rfl | rfl | rfl | rfl | rfl | rfl | rfl | rfl <;> rfl) (Nat.le_of_ble_eq_true rfl) (Nat.le_of_ble_eq_true rfl) dX1_init_26 (fun q26_5 H hP hD hS => ?_)
  refine lv_dup hx hb dX1_init_29 rfl ?_
  refine k_rnN (Wr := (b, .inr (1, [.ref q7, .int 0, .int 0])) :: (q7, .inl (T 2, 6, .inr (.inr (.inr (.inr (va_up (va_up (va_up (va_up (fun _ => none) 0 (some (u26_1 0))) 1 (some (u26_2 0))) 2 (some (u26_3 0))) 3 (some (u26_4 0)))))))) :: ((((oX3 T u26_1 iZX3) ++ oX3 T u26_2 iZX3) ++ oX3 T u26_3 iZX3) ++ oX3 T u26_4 iZX3)) (rest := [.ref q26_5, .int (nI 4), .ref q7]) (d := 1) (mc := 12) (ms := 274) cx (c_X3_init l G T H.size q26_5) ⟨va_cnB 0 hts gX1_init_X3_init_n17 rfl rfl rfl (hE.1 (RX1, 17, yX3_init) (by decide +kernel)) (hts (.initialized RX3) (by decide +kernel)) (by decide +kernel) ⟨Nat.le_of_ble_eq_true rfl, Nat.le_of_ble_eq_true rfl⟩, rfl, hts (.instanceMethod yX3_init) (by decide +kernel)⟩ hP hD hS hA hE hK hO hl.1 rfl (Nat.le_of_ble_eq_true rfl) dX1_init_30 ⟨Nat.le_of_ble_eq_true rfl, Nat.le_of_ble_eq_true rfl⟩ (fun u26_5 H locs hu26_5 hP hD hS => ?_)
  rw [← hu26_5]
  have hP : va_P G vwCl ((b, .inr (1, [.ref q7, .int 0, .int 0])) :: (q7, .inl (T 2, 6, .inr (.inr (.inr (.inr (va_up (va_up (va_up (va_up (fun _ => none) 0 (some (u26_1 0))) 1 (some (u26_2 0))) 2 (some (u26_3 0))) 3 (some (u26_4 0)))))))) :: (((((oX3 T u26_1 iZX3) ++ oX3 T u26_2 iZX3) ++ oX3 T u26_3 iZX3) ++ oX3 T u26_4 iZX3) ++ oX3 T u26_5 iZX3)) H := hP
  have hD : va_D A ((b, .inr (1, [.ref q7, .int 0, .int 0])) :: (q7, .inl (T 2, 6, .inr (.inr (.inr (.inr (va_up (va_up (va_up (va_up (fun _ => none) 0 (some (u26_1 0))) 1 (some (u26_2 0))) 2 (some (u26_3 0))) 3 (some (u26_4 0)))))))) :: (((((oX3 T u26_1 iZX3) ++ oX3 T u26_2 iZX3) ++ oX3 T u26_3 iZX3) ++ oX3 T u26_4 iZX3) ++ oX3 T u26_5 iZX3)) := hD
  refine va_astq hx hb hK hP hD hS 1 2 54 3 rfl rfl rfl rfl (vp_in_nI (show 4 < 6 by decide) (by decide)) dX1_init_33 (fun H locs hP hD hS => ?_)
  rw [nI_clamp (by decide)] at hP hD
  have hP : va_P G vwCl ((b, .inr (1, [.ref q7, .int 0, .int 0])) :: (q7, .inl (T 2, 6, .inr (.inr (.inr (.inr (va_up (va_up (va_up (va_up (va_up (fun _ => none) 0 (some (u26_1 0))) 1 (some (u26_2 0))) 2 (some (u26_3 0))) 3 (some (u26_4 0))) 4 (some (u26_5 0)))))))) :: (((((oX3 T u26_1 iZX3) ++ oX3 T u26_2 iZX3) ++ oX3 T u26_3 iZX3) ++ oX3 T u26_4 iZX3) ++ oX3 T u26_5 iZX3)) H := hP
  have hD : va_D A ((b, .inr (1, [.ref q7, .int 0, .int 0])) :: (q7, .inl (T 2, 6, .inr (.inr (.inr (.inr (va_up (va_up (va_up (va_up (va_up (fun _ => none) 0 (some (u26_1 0))) 1 (some (u26_2 0))) 2 (some (u26_3 0))) 3 (some (u26_4 0))) 4 (some (u26_5 0)))))))) :: (((((oX3 T u26_1 iZX3) ++ oX3 T u26_2 iZX3) ++ oX3 T u26_3 iZX3) ++ oX3 T u26_4 iZX3) ++ oX3 T u26_5 iZX3)) := hD
  refine lv_iinc (v := nI 5) (lv' := [(1, .int (nI 5)), (0, .ref b)]) hx hb dX1_init_34 hl (k := 0) rfl (n_inc 4 1 rfl) (by decide) rfl (fun ls hl => ?_)
  refine lv_goto (tgt := 15) hx hb dX1_init_37 (by decide) ?_
  refine lv_iload_n hx hb dX1_init_15 rfl (lv_at hl 0 rfl) ?_
  refine lv_bipush (v := nI 6) hx hb dX1_init_16 (by decide) ?_
  refine n_icmp_ge (a := 5) (b := 6) (tgt := 40) hx hb (by decide) (by decide) dX1_init_18 (by decide) (fun h9 => absurd h9 (by decide)) (fun _ => ?_)
  refine lv_aload_n hx hb dX1_init_21 rfl (lv_at hl 1 rfl) ?_
  refine va_get (D := G) (ci := 1) (v := .ref q7) (C := RX1) (T := TX1) (N := 3) hx hb hts hinX1 hown hK hP 0 rfl rfl 0 (by decide) (hts (.fieldLink RX1 11 "WhistleTunes$History" "states" "[LWhistleTunes$School;") (by decide +kernel)) (fun _ h9 => h9) rfl dX1_init_22 ?_
  refine lv_iload_n hx hb dX1_init_25 rfl (lv_at hl 0 rfl) ?_
  refine va_new (ci := 3) (fs := [.int 0, .int 0, .int 0, .int 0, .null, .null, .null, .null, .null, .null, .null, .null, .null, .null, .null, .null]) (C := RX3) (T := TX3) (N := 16) hx hb hts hinX3 tyX3 tyX3_ok hown (hts (.classLink RX1 9 RX3) (by decide +kernel)) (hts (.instantiable RX3 16) (by decide +kernel)) (hts (.initialized RX3) (by decide +kernel)) hK hP hD hS hA rfl (fun j hj => by rcases (show j = 0 ∨ j = 1 ∨ j = 2 ∨ j = 3 ∨ j = 4 ∨ j = 5 ∨ j = 6 ∨ j = 7 ∨ j = 8 ∨ j = 9 ∨ j = 10 ∨ j = 11 ∨ j = 12 ∨ j = 13 ∨ j = 14 ∨ j = 15 by omega) with rfl | rfl | rfl | rfl | rfl | rfl | rfl | rfl | rfl | rfl | rfl | rfl | rfl | rfl | rfl | rfl <;> rfl) (Nat.le_of_ble_eq_true rfl) (Nat.le_of_ble_eq_true rfl) dX1_init_26 (fun q26_6 H hP hD hS => ?_)
  refine lv_dup hx hb dX1_init_29 rfl ?_
  refine k_rnN (Wr := (b, .inr (1, [.ref q7, .int 0, .int 0])) :: (q7, .inl (T 2, 6, .inr (.inr (.inr (.inr (va_up (va_up (va_up (va_up (va_up (fun _ => none) 0 (some (u26_1 0))) 1 (some (u26_2 0))) 2 (some (u26_3 0))) 3 (some (u26_4 0))) 4 (some (u26_5 0)))))))) :: (((((oX3 T u26_1 iZX3) ++ oX3 T u26_2 iZX3) ++ oX3 T u26_3 iZX3) ++ oX3 T u26_4 iZX3) ++ oX3 T u26_5 iZX3)) (rest := [.ref q26_6, .int (nI 5), .ref q7]) (d := 1) (mc := 12) (ms := 274) cx (c_X3_init l G T H.size q26_6) ⟨va_cnB 0 hts gX1_init_X3_init_n17 rfl rfl rfl (hE.1 (RX1, 17, yX3_init) (by decide +kernel)) (hts (.initialized RX3) (by decide +kernel)) (by decide +kernel) ⟨Nat.le_of_ble_eq_true rfl, Nat.le_of_ble_eq_true rfl⟩, rfl, hts (.instanceMethod yX3_init) (by decide +kernel)⟩ hP hD hS hA hE hK hO hl.1 rfl (Nat.le_of_ble_eq_true rfl) dX1_init_30 ⟨Nat.le_of_ble_eq_true rfl, Nat.le_of_ble_eq_true rfl⟩ (fun u26_6 H locs hu26_6 hP hD hS => ?_)
  rw [← hu26_6]
  have hP : va_P G vwCl ((b, .inr (1, [.ref q7, .int 0, .int 0])) :: (q7, .inl (T 2, 6, .inr (.inr (.inr (.inr (va_up (va_up (va_up (va_up (va_up (fun _ => none) 0 (some (u26_1 0))) 1 (some (u26_2 0))) 2 (some (u26_3 0))) 3 (some (u26_4 0))) 4 (some (u26_5 0)))))))) :: ((((((oX3 T u26_1 iZX3) ++ oX3 T u26_2 iZX3) ++ oX3 T u26_3 iZX3) ++ oX3 T u26_4 iZX3) ++ oX3 T u26_5 iZX3) ++ oX3 T u26_6 iZX3)) H := hP
  have hD : va_D A ((b, .inr (1, [.ref q7, .int 0, .int 0])) :: (q7, .inl (T 2, 6, .inr (.inr (.inr (.inr (va_up (va_up (va_up (va_up (va_up (fun _ => none) 0 (some (u26_1 0))) 1 (some (u26_2 0))) 2 (some (u26_3 0))) 3 (some (u26_4 0))) 4 (some (u26_5 0)))))))) :: ((((((oX3 T u26_1 iZX3) ++ oX3 T u26_2 iZX3) ++ oX3 T u26_3 iZX3) ++ oX3 T u26_4 iZX3) ++ oX3 T u26_5 iZX3) ++ oX3 T u26_6 iZX3)) := hD
  refine va_astq hx hb hK hP hD hS 1 2 67 3 rfl rfl rfl rfl (vp_in_nI (show 5 < 6 by decide) (by decide)) dX1_init_33 (fun H locs hP hD hS => ?_)
  rw [nI_clamp (by decide)] at hP hD
  have hP : va_P G vwCl ((b, .inr (1, [.ref q7, .int 0, .int 0])) :: (q7, .inl (T 2, 6, .inr (.inr (.inr (.inr (va_up (va_up (va_up (va_up (va_up (va_up (fun _ => none) 0 (some (u26_1 0))) 1 (some (u26_2 0))) 2 (some (u26_3 0))) 3 (some (u26_4 0))) 4 (some (u26_5 0))) 5 (some (u26_6 0)))))))) :: ((((((oX3 T u26_1 iZX3) ++ oX3 T u26_2 iZX3) ++ oX3 T u26_3 iZX3) ++ oX3 T u26_4 iZX3) ++ oX3 T u26_5 iZX3) ++ oX3 T u26_6 iZX3)) H := hP
  have hD : va_D A ((b, .inr (1, [.ref q7, .int 0, .int 0])) :: (q7, .inl (T 2, 6, .inr (.inr (.inr (.inr (va_up (va_up (va_up (va_up (va_up (va_up (fun _ => none) 0 (some (u26_1 0))) 1 (some (u26_2 0))) 2 (some (u26_3 0))) 3 (some (u26_4 0))) 4 (some (u26_5 0))) 5 (some (u26_6 0)))))))) :: ((((((oX3 T u26_1 iZX3) ++ oX3 T u26_2 iZX3) ++ oX3 T u26_3 iZX3) ++ oX3 T u26_4 iZX3) ++ oX3 T u26_5 iZX3) ++ oX3 T u26_6 iZX3)) := hD
  refine lv_iinc (v := nI 6) (lv' := [(1, .int (nI 6)), (0, .ref b)]) hx hb dX1_init_34 hl (k := 0) rfl (n_inc 5 1 rfl) (by decide) rfl (fun ls hl => ?_)
  refine lv_goto (tgt := 15) hx hb dX1_init_37 (by decide) ?_
  refine lv_iload_n hx hb dX1_init_15 rfl (lv_at hl 0 rfl) ?_
  refine lv_bipush (v := nI 6) hx hb dX1_init_16 (by decide) ?_
  refine n_icmp_ge (a := 6) (b := 6) (tgt := 40) hx hb (by decide) (by decide) dX1_init_18 (by decide) (fun _ => ?_) (fun h9 => absurd h9 (by decide))
  subst hQ
  have hP := wPq_ext (f' := fun j => some ((fun j => if j = 0 then u26_1 else if j = 1 then u26_2 else if j = 2 then u26_3 else if j = 3 then u26_4 else if j = 4 then u26_5 else u26_6) j 0)) hP (fun j hj => by rcases (show j = 0 ∨ j = 1 ∨ j = 2 ∨ j = 3 ∨ j = 4 ∨ j = 5 by omega) with rfl | rfl | rfl | rfl | rfl | rfl <;> rfl)
  have hD := hD.set (p := 1) (e := .inl (T 2, 6, .inr (.inr (.inr (.inr (fun j => some ((fun j => if j = 0 then u26_1 else if j = 1 then u26_2 else if j = 2 then u26_3 else if j = 3 then u26_4 else if j = 4 then u26_5 else u26_6) j 0))))))) rfl
  exact W.vret hx hb hr (fun t ht _ => ⟨⟨((fun k => if k = 1 then q7 else b), (fun j => if j = 0 then u26_1 else if j = 1 then u26_2 else if j = 2 then u26_3 else if j = 3 then u26_4 else if j = 4 then u26_5 else u26_6)), rfl, rfl, by rw [ht]; exact hP, hD⟩, hS.F ht⟩) hS.2.2 dX1_init_40 hlocks
set_option maxHeartbeats 8000000 in
set_option maxRecDepth 100000 in
theorem c_X7_init (l : Launch) (G : va_G) (T : Nat → ClassId) (sz b : Nat) : RWn l yX7_init wsX7_init 5 116 3705 G T sz [(b, .inr (7, [.null, .null, .null, .null, .null, .null, .null, .null, .int 0]))] [.ref b] (fun u : CA => u.1 0 = b) (fun u => oCC T u cc0) := by
  refine Met.ofW (cc := cX7_init) (maxL := 1) (ret := none) (by decide) rfl ?_
  intro p e s m args below meth c s₁ B hml hv
  obtain ⟨ha, ⟨hsz, hP, hK, hD0, hE0⟩, hO⟩ := hv
  have hx := B.exec
  have hb := B.bytes
  have hr := B.returns
  have hlocks := B.notSynchronized
  have hin2 : meth.name = "<init>" := (name_of_methodNamed B.named B.method).1
  have hts := atoms_spec (ws := wsX7_init) B.pre
  have hown : s.vm.findClass RX7 = some m.cls := findClass_of_methodNamed B.named
  have cx : CallFix p m c cX7_init 1 s args wsX7_init RX7 := ⟨hx, hb, hml, hown, hts⟩
  subst hsz
  have hD := hD0.self (sz := s.heap.size)
  generalize hAe : va_A [(b, .inr (7, [.null, .null, .null, .null, .null, .null, .null, .null, .int 0]))] s.heap.size = A at hD hE0 ⊢
  have hE : gE A s s.heap := hE0
  have hA : ∀ q : Nat, s.heap.size ≤ q → A q := fun q h => by rw [← hAe]; exact Or.inr h
  have hS : va_S A s.heap s.heap [] := va_S.rf
  have hinX7 : ∀ w ∈ wsX70, w ∈ wsX7_init := by decide +kernel
  refine w_entry ha (Nat.le_of_ble_eq_true rfl) (fun ls hl => ?_)
  refine w_q (fun Q0 hQ => ?_)
  have hl : lv_has ls 1 [(0, .ref b)] := hl
  refine w_h (fun H locs hHe hLe => ?_)
  have hP : va_P G vwCl [(b, .inr (7, [.null, .null, .null, .null, .null, .null, .null, .null, .int 0]))] H := by rw [hHe]; exact hP
  have hS : va_S A s.heap H locs := by rw [hHe, hLe]; exact hS
  refine lv_aload_n hx hb dX7_init_0 rfl (lv_at hl 0 rfl) ?_
  refine W.objInit hx hb hown (hts (.methodLink RX7 1 objectInit) (by decide +kernel)) (hts (.instanceMethod objectInit) (by decide +kernel)) (hts _ (List.mem_of_getElem? (i := 3) rfl)) rfl (by rw [hml]; exact hl.1) rfl dX7_init_1 (Nat.le_of_ble_eq_true rfl) (Nat.le_of_ble_eq_true rfl) ?_
  refine W.eq (g2 := F0 m 4 ls []) rfl ?_
  refine lv_aload_n hx hb dX7_init_4 rfl (lv_at hl 0 rfl) ?_
  have hinX3 : ∀ w ∈ wsX30, w ∈ wsX7_init := by decide +kernel
  refine va_new (ci := 3) (fs := [.int 0, .int 0, .int 0, .int 0, .null, .null, .null, .null, .null, .null, .null, .null, .null, .null, .null, .null]) (C := RX3) (T := TX3) (N := 16) hx hb hts hinX3 tyX3 tyX3_ok hown (hts (.classLink RX7 7 RX3) (by decide +kernel)) (hts (.instantiable RX3 16) (by decide +kernel)) (hts (.initialized RX3) (by decide +kernel)) hK hP hD hS hA rfl (fun j hj => by rcases (show j = 0 ∨ j = 1 ∨ j = 2 ∨ j = 3 ∨ j = 4 ∨ j = 5 ∨ j = 6 ∨ j = 7 ∨ j = 8 ∨ j = 9 ∨ j = 10 ∨ j = 11 ∨ j = 12 ∨ j = 13 ∨ j = 14 ∨ j = 15 by omega) with rfl | rfl | rfl | rfl | rfl | rfl | rfl | rfl | rfl | rfl | rfl | rfl | rfl | rfl | rfl | rfl <;> rfl) (Nat.le_of_ble_eq_true rfl) (Nat.le_of_ble_eq_true rfl) dX7_init_5 (fun q5_1 H hP hD hS => ?_)
  refine lv_dup hx hb dX7_init_8 rfl ?_
  refine k_rnN (Wr := [(b, .inr (7, [.null, .null, .null, .null, .null, .null, .null, .null, .int 0]))]) (rest := [.ref q5_1, .ref b]) (d := 1) (mc := 12) (ms := 274) cx (c_X3_init l G T H.size q5_1) ⟨va_cnB 0 hts gX7_init_X3_init_n9 rfl rfl rfl (hE.1 (RX7, 9, yX3_init) (by decide +kernel)) (hts (.initialized RX3) (by decide +kernel)) (by decide +kernel) ⟨Nat.le_of_ble_eq_true rfl, Nat.le_of_ble_eq_true rfl⟩, rfl, hts (.instanceMethod yX3_init) (by decide +kernel)⟩ hP hD hS hA hE hK hO hl.1 rfl (Nat.le_of_ble_eq_true rfl) dX7_init_9 ⟨Nat.le_of_ble_eq_true rfl, Nat.le_of_ble_eq_true rfl⟩ (fun u5_1 H locs hu5_1 hP hD hS => ?_)
  rw [← hu5_1]
  have hP : va_P G vwCl ((b, .inr (7, [.null, .null, .null, .null, .null, .null, .null, .null, .int 0])) :: (oX3 T u5_1 iZX3)) H := hP
  have hD : va_D A ((b, .inr (7, [.null, .null, .null, .null, .null, .null, .null, .null, .int 0])) :: (oX3 T u5_1 iZX3)) := hD
  refine va_putF (D := G) (ci := 7) (v := .ref (u5_1 0)) (ty := .object "WhistleTunes$School") (C := RX7) (T := TX7) (N := 9) hx hb hts hinX7 tyX7 tyX7_ok nmX7 hown hK hP hD hS 0 rfl rfl 0 (by decide) (hts (.fieldLink RX7 10 "WhistleTunes" "school" "LWhistleTunes$School;") (by decide +kernel)) (fun _ h9 => h9) rfl hin2 rfl (by decide +kernel) rfl rfl (Nat.le_of_ble_eq_true rfl) dX7_init_12 (fun H locs hP hD hS => ?_)
  have hP : va_P G vwCl ((b, .inr (7, [.ref (u5_1 0), .null, .null, .null, .null, .null, .null, .null, .int 0])) :: (oX3 T u5_1 iZX3)) H := hP
  have hD : va_D A ((b, .inr (7, [.ref (u5_1 0), .null, .null, .null, .null, .null, .null, .null, .int 0])) :: (oX3 T u5_1 iZX3)) := hD
  refine lv_aload_n hx hb dX7_init_15 rfl (lv_at hl 0 rfl) ?_
  refine va_new (ci := 3) (fs := [.int 0, .int 0, .int 0, .int 0, .null, .null, .null, .null, .null, .null, .null, .null, .null, .null, .null, .null]) (C := RX3) (T := TX3) (N := 16) hx hb hts hinX3 tyX3 tyX3_ok hown (hts (.classLink RX7 7 RX3) (by decide +kernel)) (hts (.instantiable RX3 16) (by decide +kernel)) (hts (.initialized RX3) (by decide +kernel)) hK hP hD hS hA rfl (fun j hj => by rcases (show j = 0 ∨ j = 1 ∨ j = 2 ∨ j = 3 ∨ j = 4 ∨ j = 5 ∨ j = 6 ∨ j = 7 ∨ j = 8 ∨ j = 9 ∨ j = 10 ∨ j = 11 ∨ j = 12 ∨ j = 13 ∨ j = 14 ∨ j = 15 by omega) with rfl | rfl | rfl | rfl | rfl | rfl | rfl | rfl | rfl | rfl | rfl | rfl | rfl | rfl | rfl | rfl <;> rfl) (Nat.le_of_ble_eq_true rfl) (Nat.le_of_ble_eq_true rfl) dX7_init_16 (fun q16_2 H hP hD hS => ?_)
  refine lv_dup hx hb dX7_init_19 rfl ?_
  refine k_rnN (Wr := (b, .inr (7, [.ref (u5_1 0), .null, .null, .null, .null, .null, .null, .null, .int 0])) :: (oX3 T u5_1 iZX3)) (rest := [.ref q16_2, .ref b]) (d := 1) (mc := 12) (ms := 274) cx (c_X3_init l G T H.size q16_2) ⟨va_cnB 0 hts gX7_init_X3_init_n9 rfl rfl rfl (hE.1 (RX7, 9, yX3_init) (by decide +kernel)) (hts (.initialized RX3) (by decide +kernel)) (by decide +kernel) ⟨Nat.le_of_ble_eq_true rfl, Nat.le_of_ble_eq_true rfl⟩, rfl, hts (.instanceMethod yX3_init) (by decide +kernel)⟩ hP hD hS hA hE hK hO hl.1 rfl (Nat.le_of_ble_eq_true rfl) dX7_init_20 ⟨Nat.le_of_ble_eq_true rfl, Nat.le_of_ble_eq_true rfl⟩ (fun u16_2 H locs hu16_2 hP hD hS => ?_)
  rw [← hu16_2]
  have hP : va_P G vwCl ((b, .inr (7, [.ref (u5_1 0), .null, .null, .null, .null, .null, .null, .null, .int 0])) :: ((oX3 T u5_1 iZX3) ++ oX3 T u16_2 iZX3)) H := hP
  have hD : va_D A ((b, .inr (7, [.ref (u5_1 0), .null, .null, .null, .null, .null, .null, .null, .int 0])) :: ((oX3 T u5_1 iZX3) ++ oX3 T u16_2 iZX3)) := hD
  refine va_putF (D := G) (ci := 7) (v := .ref (u16_2 0)) (ty := .object "WhistleTunes$School") (C := RX7) (T := TX7) (N := 9) hx hb hts hinX7 tyX7 tyX7_ok nmX7 hown hK hP hD hS 0 rfl rfl 1 (by decide) (hts (.fieldLink RX7 16 "WhistleTunes" "snapshot" "LWhistleTunes$School;") (by decide +kernel)) (fun _ h9 => h9) rfl hin2 rfl (by decide +kernel) rfl rfl (Nat.le_of_ble_eq_true rfl) dX7_init_23 (fun H locs hP hD hS => ?_)
  have hP : va_P G vwCl ((b, .inr (7, [.ref (u5_1 0), .ref (u16_2 0), .null, .null, .null, .null, .null, .null, .int 0])) :: ((oX3 T u5_1 iZX3) ++ oX3 T u16_2 iZX3)) H := hP
  have hD : va_D A ((b, .inr (7, [.ref (u5_1 0), .ref (u16_2 0), .null, .null, .null, .null, .null, .null, .int 0])) :: ((oX3 T u5_1 iZX3) ++ oX3 T u16_2 iZX3)) := hD
  refine lv_aload_n hx hb dX7_init_26 rfl (lv_at hl 0 rfl) ?_
  have hinX1 : ∀ w ∈ wsX10, w ∈ wsX7_init := by decide +kernel
  refine va_new (ci := 1) (fs := [.null, .int 0, .int 0]) (C := RX1) (T := TX1) (N := 3) hx hb hts hinX1 tyX1 tyX1_ok hown (hts (.classLink RX7 19 RX1) (by decide +kernel)) (hts (.instantiable RX1 3) (by decide +kernel)) (hts (.initialized RX1) (by decide +kernel)) hK hP hD hS hA rfl (fun j hj => by rcases (show j = 0 ∨ j = 1 ∨ j = 2 by omega) with rfl | rfl | rfl <;> rfl) (Nat.le_of_ble_eq_true rfl) (Nat.le_of_ble_eq_true rfl) dX7_init_27 (fun q27_3 H hP hD hS => ?_)
  refine lv_dup hx hb dX7_init_30 rfl ?_
  refine k_rnI (Wr := (b, .inr (7, [.ref (u5_1 0), .ref (u16_2 0), .null, .null, .null, .null, .null, .null, .int 0])) :: ((oX3 T u5_1 iZX3) ++ oX3 T u16_2 iZX3)) (rest := [.ref q27_3, .ref b]) (d := 3) (mc := 79) (ms := 1746) cx (c_X1_init l G T H.size q27_3) (cwI 0 hts gX7_init_X1_init rfl rfl rfl (hts (.initialized RX1) (by decide +kernel)) (hts (.methodLink RX7 21 yX1_init) (by decide +kernel)) (hts (.instanceMethod yX1_init) (by decide +kernel)) rfl (by decide +kernel) ⟨Nat.le_of_ble_eq_true rfl, Nat.le_of_ble_eq_true rfl⟩) hP hD hS hA hE hK hO hl.1 rfl (Nat.le_of_ble_eq_true rfl) dX7_init_31 ⟨Nat.le_of_ble_eq_true rfl, Nat.le_of_ble_eq_true rfl⟩ (fun u27_3 H locs hu27_3 hP hD hS => ?_)
  rw [← hu27_3]
  have hP : va_P G vwCl ((b, .inr (7, [.ref (u5_1 0), .ref (u16_2 0), .null, .null, .null, .null, .null, .null, .int 0])) :: (((oX3 T u5_1 iZX3) ++ oX3 T u16_2 iZX3) ++ oX1 T u27_3.1 u27_3.2 (fun _ _ => 0) (fun _ => iZX3))) H := hP
  have hD : va_D A ((b, .inr (7, [.ref (u5_1 0), .ref (u16_2 0), .null, .null, .null, .null, .null, .null, .int 0])) :: (((oX3 T u5_1 iZX3) ++ oX3 T u16_2 iZX3) ++ oX1 T u27_3.1 u27_3.2 (fun _ _ => 0) (fun _ => iZX3))) := hD
  refine va_putF (D := G) (ci := 7) (v := .ref (u27_3.1 0)) (ty := .object "WhistleTunes$History") (C := RX7) (T := TX7) (N := 9) hx hb hts hinX7 tyX7 tyX7_ok nmX7 hown hK hP hD hS 0 rfl rfl 2 (by decide) (hts (.fieldLink RX7 22 "WhistleTunes" "history" "LWhistleTunes$History;") (by decide +kernel)) (fun _ h9 => h9) rfl hin2 rfl (by decide +kernel) rfl rfl (Nat.le_of_ble_eq_true rfl) dX7_init_34 (fun H locs hP hD hS => ?_)
  have hP : va_P G vwCl ((b, .inr (7, [.ref (u5_1 0), .ref (u16_2 0), .ref (u27_3.1 0), .null, .null, .null, .null, .null, .int 0])) :: (((oX3 T u5_1 iZX3) ++ oX3 T u16_2 iZX3) ++ oX1 T u27_3.1 u27_3.2 (fun _ _ => 0) (fun _ => iZX3))) H := hP
  have hD : va_D A ((b, .inr (7, [.ref (u5_1 0), .ref (u16_2 0), .ref (u27_3.1 0), .null, .null, .null, .null, .null, .int 0])) :: (((oX3 T u5_1 iZX3) ++ oX3 T u16_2 iZX3) ++ oX1 T u27_3.1 u27_3.2 (fun _ _ => 0) (fun _ => iZX3))) := hD
  refine lv_aload_n hx hb dX7_init_37 rfl (lv_at hl 0 rfl) ?_
  have hinX5 : ∀ w ∈ wsX50, w ∈ wsX7_init := by decide +kernel
  refine va_new (ci := 5) (fs := [.null, .int 0]) (C := RX5) (T := TX5) (N := 2) hx hb hts hinX5 tyX5 tyX5_ok hown (hts (.classLink RX7 26 RX5) (by decide +kernel)) (hts (.instantiable RX5 2) (by decide +kernel)) (hts (.initialized RX5) (by decide +kernel)) hK hP hD hS hA rfl (fun j hj => by rcases (show j = 0 ∨ j = 1 by omega) with rfl | rfl <;> rfl) (Nat.le_of_ble_eq_true rfl) (Nat.le_of_ble_eq_true rfl) dX7_init_38 (fun q38_4 H hP hD hS => ?_)
  refine lv_dup hx hb dX7_init_41 rfl ?_
  refine k_rnN (Wr := (b, .inr (7, [.ref (u5_1 0), .ref (u16_2 0), .ref (u27_3.1 0), .null, .null, .null, .null, .null, .int 0])) :: (((oX3 T u5_1 iZX3) ++ oX3 T u16_2 iZX3) ++ oX1 T u27_3.1 u27_3.2 (fun _ _ => 0) (fun _ => iZX3))) (rest := [.ref q38_4, .ref b]) (d := 1) (mc := 1) (ms := 60) cx (c_X5_init l G T H.size q38_4) ⟨va_cnB 0 hts gX7_init_X5_init_n28 rfl rfl rfl (hE.1 (RX7, 28, yX5_init) (by decide +kernel)) (hts (.initialized RX5) (by decide +kernel)) (by decide +kernel) ⟨Nat.le_of_ble_eq_true rfl, Nat.le_of_ble_eq_true rfl⟩, rfl, hts (.instanceMethod yX5_init) (by decide +kernel)⟩ hP hD hS hA hE hK hO hl.1 rfl (Nat.le_of_ble_eq_true rfl) dX7_init_42 ⟨Nat.le_of_ble_eq_true rfl, Nat.le_of_ble_eq_true rfl⟩ (fun u38_4 H locs hu38_4 hP hD hS => ?_)
  rw [← hu38_4]
  have hP : va_P G vwCl ((b, .inr (7, [.ref (u5_1 0), .ref (u16_2 0), .ref (u27_3.1 0), .null, .null, .null, .null, .null, .int 0])) :: ((((oX3 T u5_1 iZX3) ++ oX3 T u16_2 iZX3) ++ oX1 T u27_3.1 u27_3.2 (fun _ _ => 0) (fun _ => iZX3)) ++ oX5 T u38_4 iZX5)) H := hP
  have hD : va_D A ((b, .inr (7, [.ref (u5_1 0), .ref (u16_2 0), .ref (u27_3.1 0), .null, .null, .null, .null, .null, .int 0])) :: ((((oX3 T u5_1 iZX3) ++ oX3 T u16_2 iZX3) ++ oX1 T u27_3.1 u27_3.2 (fun _ _ => 0) (fun _ => iZX3)) ++ oX5 T u38_4 iZX5)) := hD
  refine va_putF (D := G) (ci := 7) (v := .ref (u38_4 0)) (ty := .object "WhistleTunes$Text") (C := RX7) (T := TX7) (N := 9) hx hb hts hinX7 tyX7 tyX7_ok nmX7 hown hK hP hD hS 0 rfl rfl 3 (by decide) (hts (.fieldLink RX7 29 "WhistleTunes" "text" "LWhistleTunes$Text;") (by decide +kernel)) (fun _ h9 => h9) rfl hin2 rfl (by decide +kernel) rfl rfl (Nat.le_of_ble_eq_true rfl) dX7_init_45 (fun H locs hP hD hS => ?_)
  have hP : va_P G vwCl ((b, .inr (7, [.ref (u5_1 0), .ref (u16_2 0), .ref (u27_3.1 0), .ref (u38_4 0), .null, .null, .null, .null, .int 0])) :: ((((oX3 T u5_1 iZX3) ++ oX3 T u16_2 iZX3) ++ oX1 T u27_3.1 u27_3.2 (fun _ _ => 0) (fun _ => iZX3)) ++ oX5 T u38_4 iZX5)) H := hP
  have hD : va_D A ((b, .inr (7, [.ref (u5_1 0), .ref (u16_2 0), .ref (u27_3.1 0), .ref (u38_4 0), .null, .null, .null, .null, .int 0])) :: ((((oX3 T u5_1 iZX3) ++ oX3 T u16_2 iZX3) ++ oX1 T u27_3.1 u27_3.2 (fun _ _ => 0) (fun _ => iZX3)) ++ oX5 T u38_4 iZX5)) := hD
  refine lv_aload_n hx hb dX7_init_48 rfl (lv_at hl 0 rfl) ?_
  have hinX0 : ∀ w ∈ wsX00, w ∈ wsX7_init := by decide +kernel
  refine va_new (ci := 0) (fs := [.int 0, .int 0, .int 0]) (C := RX0) (T := TX0) (N := 3) hx hb hts hinX0 tyX0 tyX0_ok hown (hts (.classLink RX7 33 RX0) (by decide +kernel)) (hts (.instantiable RX0 3) (by decide +kernel)) (hts (.initialized RX0) (by decide +kernel)) hK hP hD hS hA rfl (fun j hj => by rcases (show j = 0 ∨ j = 1 ∨ j = 2 by omega) with rfl | rfl | rfl <;> rfl) (Nat.le_of_ble_eq_true rfl) (Nat.le_of_ble_eq_true rfl) dX7_init_49 (fun q49_5 H hP hD hS => ?_)
  refine lv_dup hx hb dX7_init_52 rfl ?_
  refine k_rnN (Wr := (b, .inr (7, [.ref (u5_1 0), .ref (u16_2 0), .ref (u27_3.1 0), .ref (u38_4 0), .null, .null, .null, .null, .int 0])) :: ((((oX3 T u5_1 iZX3) ++ oX3 T u16_2 iZX3) ++ oX1 T u27_3.1 u27_3.2 (fun _ _ => 0) (fun _ => iZX3)) ++ oX5 T u38_4 iZX5)) (rest := [.ref q49_5, .ref b]) (d := 1) (mc := 0) (ms := 0) cx (c_X0_init l G T H.size q49_5) ⟨va_cnB 0 hts gX7_init_X0_init_n35 rfl rfl rfl (hE.1 (RX7, 35, yX0_init) (by decide +kernel)) (hts (.initialized RX0) (by decide +kernel)) (by decide +kernel) ⟨Nat.le_of_ble_eq_true rfl, Nat.le_of_ble_eq_true rfl⟩, rfl, hts (.instanceMethod yX0_init) (by decide +kernel)⟩ hP hD hS hA hE hK hO hl.1 rfl (Nat.le_of_ble_eq_true rfl) dX7_init_53 ⟨Nat.le_of_ble_eq_true rfl, Nat.le_of_ble_eq_true rfl⟩ (fun u49_5 H locs hu49_5 hP hD hS => ?_)
  rw [← hu49_5]
  have hP : va_P G vwCl ((b, .inr (7, [.ref (u5_1 0), .ref (u16_2 0), .ref (u27_3.1 0), .ref (u38_4 0), .null, .null, .null, .null, .int 0])) :: (((((oX3 T u5_1 iZX3) ++ oX3 T u16_2 iZX3) ++ oX1 T u27_3.1 u27_3.2 (fun _ _ => 0) (fun _ => iZX3)) ++ oX5 T u38_4 iZX5) ++ oX0 T u49_5 iZX0)) H := hP
  have hD : va_D A ((b, .inr (7, [.ref (u5_1 0), .ref (u16_2 0), .ref (u27_3.1 0), .ref (u38_4 0), .null, .null, .null, .null, .int 0])) :: (((((oX3 T u5_1 iZX3) ++ oX3 T u16_2 iZX3) ++ oX1 T u27_3.1 u27_3.2 (fun _ _ => 0) (fun _ => iZX3)) ++ oX5 T u38_4 iZX5) ++ oX0 T u49_5 iZX0)) := hD
  refine va_putF (D := G) (ci := 7) (v := .ref (u49_5 0)) (ty := .object "WhistleTunes$Grammar") (C := RX7) (T := TX7) (N := 9) hx hb hts hinX7 tyX7 tyX7_ok nmX7 hown hK hP hD hS 0 rfl rfl 4 (by decide) (hts (.fieldLink RX7 36 "WhistleTunes" "grammar" "LWhistleTunes$Grammar;") (by decide +kernel)) (fun _ h9 => h9) rfl hin2 rfl (by decide +kernel) rfl rfl (Nat.le_of_ble_eq_true rfl) dX7_init_56 (fun H locs hP hD hS => ?_)
  have hP : va_P G vwCl ((b, .inr (7, [.ref (u5_1 0), .ref (u16_2 0), .ref (u27_3.1 0), .ref (u38_4 0), .ref (u49_5 0), .null, .null, .null, .int 0])) :: (((((oX3 T u5_1 iZX3) ++ oX3 T u16_2 iZX3) ++ oX1 T u27_3.1 u27_3.2 (fun _ _ => 0) (fun _ => iZX3)) ++ oX5 T u38_4 iZX5) ++ oX0 T u49_5 iZX0)) H := hP
  have hD : va_D A ((b, .inr (7, [.ref (u5_1 0), .ref (u16_2 0), .ref (u27_3.1 0), .ref (u38_4 0), .ref (u49_5 0), .null, .null, .null, .int 0])) :: (((((oX3 T u5_1 iZX3) ++ oX3 T u16_2 iZX3) ++ oX1 T u27_3.1 u27_3.2 (fun _ _ => 0) (fun _ => iZX3)) ++ oX5 T u38_4 iZX5) ++ oX0 T u49_5 iZX0)) := hD
  refine lv_aload_n hx hb dX7_init_59 rfl (lv_at hl 0 rfl) ?_
  have hinX6 : ∀ w ∈ wsX60, w ∈ wsX7_init := by decide +kernel
  refine va_new (ci := 6) (fs := [.null, .null, .int 0]) (C := RX6) (T := TX6) (N := 3) hx hb hts hinX6 tyX6 tyX6_ok hown (hts (.classLink RX7 40 RX6) (by decide +kernel)) (hts (.instantiable RX6 3) (by decide +kernel)) (hts (.initialized RX6) (by decide +kernel)) hK hP hD hS hA rfl (fun j hj => by rcases (show j = 0 ∨ j = 1 ∨ j = 2 by omega) with rfl | rfl | rfl <;> rfl) (Nat.le_of_ble_eq_true rfl) (Nat.le_of_ble_eq_true rfl) dX7_init_60 (fun q60_6 H hP hD hS => ?_)
  refine lv_dup hx hb dX7_init_63 rfl ?_
  refine k_rnN (Wr := (b, .inr (7, [.ref (u5_1 0), .ref (u16_2 0), .ref (u27_3.1 0), .ref (u38_4 0), .ref (u49_5 0), .null, .null, .null, .int 0])) :: (((((oX3 T u5_1 iZX3) ++ oX3 T u16_2 iZX3) ++ oX1 T u27_3.1 u27_3.2 (fun _ _ => 0) (fun _ => iZX3)) ++ oX5 T u38_4 iZX5) ++ oX0 T u49_5 iZX0)) (rest := [.ref q60_6, .ref b]) (d := 1) (mc := 2) (ms := 12) cx (c_X6_init l G T H.size q60_6) ⟨va_cnB 0 hts gX7_init_X6_init_n42 rfl rfl rfl (hE.1 (RX7, 42, yX6_init) (by decide +kernel)) (hts (.initialized RX6) (by decide +kernel)) (by decide +kernel) ⟨Nat.le_of_ble_eq_true rfl, Nat.le_of_ble_eq_true rfl⟩, rfl, hts (.instanceMethod yX6_init) (by decide +kernel)⟩ hP hD hS hA hE hK hO hl.1 rfl (Nat.le_of_ble_eq_true rfl) dX7_init_64 ⟨Nat.le_of_ble_eq_true rfl, Nat.le_of_ble_eq_true rfl⟩ (fun u60_6 H locs hu60_6 hP hD hS => ?_)
  rw [← hu60_6]
  have hP : va_P G vwCl ((b, .inr (7, [.ref (u5_1 0), .ref (u16_2 0), .ref (u27_3.1 0), .ref (u38_4 0), .ref (u49_5 0), .null, .null, .null, .int 0])) :: ((((((oX3 T u5_1 iZX3) ++ oX3 T u16_2 iZX3) ++ oX1 T u27_3.1 u27_3.2 (fun _ _ => 0) (fun _ => iZX3)) ++ oX5 T u38_4 iZX5) ++ oX0 T u49_5 iZX0) ++ oX6 T u60_6 iZX6)) H := hP
  have hD : va_D A ((b, .inr (7, [.ref (u5_1 0), .ref (u16_2 0), .ref (u27_3.1 0), .ref (u38_4 0), .ref (u49_5 0), .null, .null, .null, .int 0])) :: ((((((oX3 T u5_1 iZX3) ++ oX3 T u16_2 iZX3) ++ oX1 T u27_3.1 u27_3.2 (fun _ _ => 0) (fun _ => iZX3)) ++ oX5 T u38_4 iZX5) ++ oX0 T u49_5 iZX0) ++ oX6 T u60_6 iZX6)) := hD
  refine va_putF (D := G) (ci := 7) (v := .ref (u60_6 0)) (ty := .object "WhistleTunes$Tune") (C := RX7) (T := TX7) (N := 9) hx hb hts hinX7 tyX7 tyX7_ok nmX7 hown hK hP hD hS 0 rfl rfl 5 (by decide) (hts (.fieldLink RX7 43 "WhistleTunes" "tune" "LWhistleTunes$Tune;") (by decide +kernel)) (fun _ h9 => h9) rfl hin2 rfl (by decide +kernel) rfl rfl (Nat.le_of_ble_eq_true rfl) dX7_init_67 (fun H locs hP hD hS => ?_)
  have hP : va_P G vwCl ((b, .inr (7, [.ref (u5_1 0), .ref (u16_2 0), .ref (u27_3.1 0), .ref (u38_4 0), .ref (u49_5 0), .ref (u60_6 0), .null, .null, .int 0])) :: ((((((oX3 T u5_1 iZX3) ++ oX3 T u16_2 iZX3) ++ oX1 T u27_3.1 u27_3.2 (fun _ _ => 0) (fun _ => iZX3)) ++ oX5 T u38_4 iZX5) ++ oX0 T u49_5 iZX0) ++ oX6 T u60_6 iZX6)) H := hP
  have hD : va_D A ((b, .inr (7, [.ref (u5_1 0), .ref (u16_2 0), .ref (u27_3.1 0), .ref (u38_4 0), .ref (u49_5 0), .ref (u60_6 0), .null, .null, .int 0])) :: ((((((oX3 T u5_1 iZX3) ++ oX3 T u16_2 iZX3) ++ oX1 T u27_3.1 u27_3.2 (fun _ _ => 0) (fun _ => iZX3)) ++ oX5 T u38_4 iZX5) ++ oX0 T u49_5 iZX0) ++ oX6 T u60_6 iZX6)) := hD
  refine lv_aload_n hx hb dX7_init_70 rfl (lv_at hl 0 rfl) ?_
  have hinX4 : ∀ w ∈ wsX40, w ∈ wsX7_init := by decide +kernel
  refine va_new (ci := 4) (fs := [.null, .null, .int 0]) (C := RX4) (T := TX4) (N := 3) hx hb hts hinX4 tyX4 tyX4_ok hown (hts (.classLink RX7 47 RX4) (by decide +kernel)) (hts (.instantiable RX4 3) (by decide +kernel)) (hts (.initialized RX4) (by decide +kernel)) hK hP hD hS hA rfl (fun j hj => by rcases (show j = 0 ∨ j = 1 ∨ j = 2 by omega) with rfl | rfl | rfl <;> rfl) (Nat.le_of_ble_eq_true rfl) (Nat.le_of_ble_eq_true rfl) dX7_init_71 (fun q71_7 H hP hD hS => ?_)
  refine lv_dup hx hb dX7_init_74 rfl ?_
  refine k_rnN (Wr := (b, .inr (7, [.ref (u5_1 0), .ref (u16_2 0), .ref (u27_3.1 0), .ref (u38_4 0), .ref (u49_5 0), .ref (u60_6 0), .null, .null, .int 0])) :: ((((((oX3 T u5_1 iZX3) ++ oX3 T u16_2 iZX3) ++ oX1 T u27_3.1 u27_3.2 (fun _ _ => 0) (fun _ => iZX3)) ++ oX5 T u38_4 iZX5) ++ oX0 T u49_5 iZX0) ++ oX6 T u60_6 iZX6)) (rest := [.ref q71_7, .ref b]) (d := 1) (mc := 2) (ms := 1288) cx (c_X4_init l G T H.size q71_7) ⟨va_cnB 0 hts gX7_init_X4_init_n49 rfl rfl rfl (hE.1 (RX7, 49, yX4_init) (by decide +kernel)) (hts (.initialized RX4) (by decide +kernel)) (by decide +kernel) ⟨Nat.le_of_ble_eq_true rfl, Nat.le_of_ble_eq_true rfl⟩, rfl, hts (.instanceMethod yX4_init) (by decide +kernel)⟩ hP hD hS hA hE hK hO hl.1 rfl (Nat.le_of_ble_eq_true rfl) dX7_init_75 ⟨Nat.le_of_ble_eq_true rfl, Nat.le_of_ble_eq_true rfl⟩ (fun u71_7 H locs hu71_7 hP hD hS => ?_)
  rw [← hu71_7]
  have hP : va_P G vwCl ((b, .inr (7, [.ref (u5_1 0), .ref (u16_2 0), .ref (u27_3.1 0), .ref (u38_4 0), .ref (u49_5 0), .ref (u60_6 0), .null, .null, .int 0])) :: (((((((oX3 T u5_1 iZX3) ++ oX3 T u16_2 iZX3) ++ oX1 T u27_3.1 u27_3.2 (fun _ _ => 0) (fun _ => iZX3)) ++ oX5 T u38_4 iZX5) ++ oX0 T u49_5 iZX0) ++ oX6 T u60_6 iZX6) ++ oX4 T u71_7 iZX4)) H := hP
  have hD : va_D A ((b, .inr (7, [.ref (u5_1 0), .ref (u16_2 0), .ref (u27_3.1 0), .ref (u38_4 0), .ref (u49_5 0), .ref (u60_6 0), .null, .null, .int 0])) :: (((((((oX3 T u5_1 iZX3) ++ oX3 T u16_2 iZX3) ++ oX1 T u27_3.1 u27_3.2 (fun _ _ => 0) (fun _ => iZX3)) ++ oX5 T u38_4 iZX5) ++ oX0 T u49_5 iZX0) ++ oX6 T u60_6 iZX6) ++ oX4 T u71_7 iZX4)) := hD
  refine va_putF (D := G) (ci := 7) (v := .ref (u71_7 0)) (ty := .object "WhistleTunes$ShapeTree") (C := RX7) (T := TX7) (N := 9) hx hb hts hinX7 tyX7 tyX7_ok nmX7 hown hK hP hD hS 0 rfl rfl 6 (by decide) (hts (.fieldLink RX7 50 "WhistleTunes" "tree" "LWhistleTunes$ShapeTree;") (by decide +kernel)) (fun _ h9 => h9) rfl hin2 rfl (by decide +kernel) rfl rfl (Nat.le_of_ble_eq_true rfl) dX7_init_78 (fun H locs hP hD hS => ?_)
  have hP : va_P G vwCl ((b, .inr (7, [.ref (u5_1 0), .ref (u16_2 0), .ref (u27_3.1 0), .ref (u38_4 0), .ref (u49_5 0), .ref (u60_6 0), .ref (u71_7 0), .null, .int 0])) :: (((((((oX3 T u5_1 iZX3) ++ oX3 T u16_2 iZX3) ++ oX1 T u27_3.1 u27_3.2 (fun _ _ => 0) (fun _ => iZX3)) ++ oX5 T u38_4 iZX5) ++ oX0 T u49_5 iZX0) ++ oX6 T u60_6 iZX6) ++ oX4 T u71_7 iZX4)) H := hP
  have hD : va_D A ((b, .inr (7, [.ref (u5_1 0), .ref (u16_2 0), .ref (u27_3.1 0), .ref (u38_4 0), .ref (u49_5 0), .ref (u60_6 0), .ref (u71_7 0), .null, .int 0])) :: (((((((oX3 T u5_1 iZX3) ++ oX3 T u16_2 iZX3) ++ oX1 T u27_3.1 u27_3.2 (fun _ _ => 0) (fun _ => iZX3)) ++ oX5 T u38_4 iZX5) ++ oX0 T u49_5 iZX0) ++ oX6 T u60_6 iZX6) ++ oX4 T u71_7 iZX4)) := hD
  refine lv_aload_n hx hb dX7_init_81 rfl (lv_at hl 0 rfl) ?_
  have hinX2 : ∀ w ∈ wsX20, w ∈ wsX7_init := by decide +kernel
  refine va_new (ci := 2) (fs := [.int 0, .int 0, .int 0, .int 0, .int 0]) (C := RX2) (T := TX2) (N := 5) hx hb hts hinX2 tyX2 tyX2_ok hown (hts (.classLink RX7 54 RX2) (by decide +kernel)) (hts (.instantiable RX2 5) (by decide +kernel)) (hts (.initialized RX2) (by decide +kernel)) hK hP hD hS hA rfl (fun j hj => by rcases (show j = 0 ∨ j = 1 ∨ j = 2 ∨ j = 3 ∨ j = 4 by omega) with rfl | rfl | rfl | rfl | rfl <;> rfl) (Nat.le_of_ble_eq_true rfl) (Nat.le_of_ble_eq_true rfl) dX7_init_82 (fun q82_8 H hP hD hS => ?_)
  refine lv_dup hx hb dX7_init_85 rfl ?_
  refine k_rnN (Wr := (b, .inr (7, [.ref (u5_1 0), .ref (u16_2 0), .ref (u27_3.1 0), .ref (u38_4 0), .ref (u49_5 0), .ref (u60_6 0), .ref (u71_7 0), .null, .int 0])) :: (((((((oX3 T u5_1 iZX3) ++ oX3 T u16_2 iZX3) ++ oX1 T u27_3.1 u27_3.2 (fun _ _ => 0) (fun _ => iZX3)) ++ oX5 T u38_4 iZX5) ++ oX0 T u49_5 iZX0) ++ oX6 T u60_6 iZX6) ++ oX4 T u71_7 iZX4)) (rest := [.ref q82_8, .ref b]) (d := 1) (mc := 0) (ms := 0) cx (c_X2_init l G T H.size q82_8) ⟨va_cnB 0 hts gX7_init_X2_init_n56 rfl rfl rfl (hE.1 (RX7, 56, yX2_init) (by decide +kernel)) (hts (.initialized RX2) (by decide +kernel)) (by decide +kernel) ⟨Nat.le_of_ble_eq_true rfl, Nat.le_of_ble_eq_true rfl⟩, rfl, hts (.instanceMethod yX2_init) (by decide +kernel)⟩ hP hD hS hA hE hK hO hl.1 rfl (Nat.le_of_ble_eq_true rfl) dX7_init_86 ⟨Nat.le_of_ble_eq_true rfl, Nat.le_of_ble_eq_true rfl⟩ (fun u82_8 H locs hu82_8 hP hD hS => ?_)
  rw [← hu82_8]
  have hP : va_P G vwCl ((b, .inr (7, [.ref (u5_1 0), .ref (u16_2 0), .ref (u27_3.1 0), .ref (u38_4 0), .ref (u49_5 0), .ref (u60_6 0), .ref (u71_7 0), .null, .int 0])) :: ((((((((oX3 T u5_1 iZX3) ++ oX3 T u16_2 iZX3) ++ oX1 T u27_3.1 u27_3.2 (fun _ _ => 0) (fun _ => iZX3)) ++ oX5 T u38_4 iZX5) ++ oX0 T u49_5 iZX0) ++ oX6 T u60_6 iZX6) ++ oX4 T u71_7 iZX4) ++ oX2 T u82_8 iZX2)) H := hP
  have hD : va_D A ((b, .inr (7, [.ref (u5_1 0), .ref (u16_2 0), .ref (u27_3.1 0), .ref (u38_4 0), .ref (u49_5 0), .ref (u60_6 0), .ref (u71_7 0), .null, .int 0])) :: ((((((((oX3 T u5_1 iZX3) ++ oX3 T u16_2 iZX3) ++ oX1 T u27_3.1 u27_3.2 (fun _ _ => 0) (fun _ => iZX3)) ++ oX5 T u38_4 iZX5) ++ oX0 T u49_5 iZX0) ++ oX6 T u60_6 iZX6) ++ oX4 T u71_7 iZX4) ++ oX2 T u82_8 iZX2)) := hD
  refine va_putF (D := G) (ci := 7) (v := .ref (u82_8 0)) (ty := .object "WhistleTunes$Outcome") (C := RX7) (T := TX7) (N := 9) hx hb hts hinX7 tyX7 tyX7_ok nmX7 hown hK hP hD hS 0 rfl rfl 7 (by decide) (hts (.fieldLink RX7 57 "WhistleTunes" "outcome" "LWhistleTunes$Outcome;") (by decide +kernel)) (fun _ h9 => h9) rfl hin2 rfl (by decide +kernel) rfl rfl (Nat.le_of_ble_eq_true rfl) dX7_init_89 (fun H locs hP hD hS => ?_)
  have hP : va_P G vwCl ((b, .inr (7, [.ref (u5_1 0), .ref (u16_2 0), .ref (u27_3.1 0), .ref (u38_4 0), .ref (u49_5 0), .ref (u60_6 0), .ref (u71_7 0), .ref (u82_8 0), .int 0])) :: ((((((((oX3 T u5_1 iZX3) ++ oX3 T u16_2 iZX3) ++ oX1 T u27_3.1 u27_3.2 (fun _ _ => 0) (fun _ => iZX3)) ++ oX5 T u38_4 iZX5) ++ oX0 T u49_5 iZX0) ++ oX6 T u60_6 iZX6) ++ oX4 T u71_7 iZX4) ++ oX2 T u82_8 iZX2)) H := hP
  have hD : va_D A ((b, .inr (7, [.ref (u5_1 0), .ref (u16_2 0), .ref (u27_3.1 0), .ref (u38_4 0), .ref (u49_5 0), .ref (u60_6 0), .ref (u71_7 0), .ref (u82_8 0), .int 0])) :: ((((((((oX3 T u5_1 iZX3) ++ oX3 T u16_2 iZX3) ++ oX1 T u27_3.1 u27_3.2 (fun _ _ => 0) (fun _ => iZX3)) ++ oX5 T u38_4 iZX5) ++ oX0 T u49_5 iZX0) ++ oX6 T u60_6 iZX6) ++ oX4 T u71_7 iZX4) ++ oX2 T u82_8 iZX2)) := hD
  refine lv_aload_n hx hb dX7_init_92 rfl (lv_at hl 0 rfl) ?_
  refine n_iconst hx hb 0 dX7_init_93 (by decide) ?_
  refine va_put (D := G) (ci := 7) (v := .int (nI 0)) (ty := .boolean) (C := RX7) (T := TX7) (N := 9) hx hb hts hinX7 tyX7 tyX7_ok nmX7 hown hK hP hD hS 0 rfl rfl 8 (by decide) (hts (.fieldLink RX7 61 "WhistleTunes" "hasSnapshot" "Z") (by decide +kernel)) (fun _ h9 => h9) rfl (by decide +kernel) rfl rfl (Nat.le_of_ble_eq_true rfl) dX7_init_94 (fun H locs hP hD hS => ?_)
  have hP : va_P G vwCl ((b, .inr (7, [.ref (u5_1 0), .ref (u16_2 0), .ref (u27_3.1 0), .ref (u38_4 0), .ref (u49_5 0), .ref (u60_6 0), .ref (u71_7 0), .ref (u82_8 0), .int (nI 0)])) :: ((((((((oX3 T u5_1 iZX3) ++ oX3 T u16_2 iZX3) ++ oX1 T u27_3.1 u27_3.2 (fun _ _ => 0) (fun _ => iZX3)) ++ oX5 T u38_4 iZX5) ++ oX0 T u49_5 iZX0) ++ oX6 T u60_6 iZX6) ++ oX4 T u71_7 iZX4) ++ oX2 T u82_8 iZX2)) H := hP
  have hD : va_D A ((b, .inr (7, [.ref (u5_1 0), .ref (u16_2 0), .ref (u27_3.1 0), .ref (u38_4 0), .ref (u49_5 0), .ref (u60_6 0), .ref (u71_7 0), .ref (u82_8 0), .int (nI 0)])) :: ((((((((oX3 T u5_1 iZX3) ++ oX3 T u16_2 iZX3) ++ oX1 T u27_3.1 u27_3.2 (fun _ _ => 0) (fun _ => iZX3)) ++ oX5 T u38_4 iZX5) ++ oX0 T u49_5 iZX0) ++ oX6 T u60_6 iZX6) ++ oX4 T u71_7 iZX4) ++ oX2 T u82_8 iZX2)) := hD
  subst hQ
  exact W.vret hx hb hr (fun t ht _ => ⟨⟨((fun _ => b), u5_1, u16_2, u27_3.1, u27_3.2, u38_4, u49_5, u60_6, u71_7, u82_8), rfl, rfl, by rw [ht]; exact hP, hD⟩, hS.F ht⟩) hS.2.2 dX7_init_97 hlocks
