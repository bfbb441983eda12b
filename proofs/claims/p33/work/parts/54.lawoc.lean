/-! the law's methods that call WhistleTunes: types, told (printed by wip/p33/s61.py) -/
abbrev xCl (X : Nat → Nat → Int32) : Nat → Nat → Int32 := sc X 1 (nI 0)
abbrev xAp (X : Nat → Nat → Int32) (n c : Nat) : Nat → Nat → Int32 := sa (sc X 1 (nI (n + 1))) 1 (upd (X 1) n (nI c))
def uW2 (tu a b : Nat) : Nat → Nat | 0 => tu | n + 1 => uWi (uW2 tu a b n) (if n % 2 = 0 then a else b)
theorem uW2_lt {tu a b : Nat} (h : tu < 167772160) (ha : a < 8) (hb : b < 8) (n : Nat) : uW2 tu a b n < 167772160 := by
  induction n with
  | zero => exact h
  | succ n ih => exact uWi_lt ih (by split <;> assumption)
abbrev TyS : Type := (Nat → Nat → Int32) × Nat × Nat
def tyX (vv : Int32) (k : Nat) : Int32 := iShr vv (nI (3 * k + 2))
def tyI (vv : Int32) (k : Nat) (z : TyS) : TyS :=
  if 0 < loN (iShr (tyX vv k) (nI 6)) 3 then (xAp z.1 z.2.1 (lLt (loN (tyX vv k) 7)), z.2.1 + 1, uWi z.2.2 (loN (tyX vv k) 7))
  else (xAp (xAp (xAp (xAp (xAp z.1 z.2.1 40) (z.2.1 + 1) (lLt (loN (tyX vv k) 7))) (z.2.1 + 2) (lLt (loN (iShr (tyX vv k) (nI 3)) 7))) (z.2.1 + 3) 41) (z.2.1 + 4) (48 + (2 + loN (iShr (tyX vv k) (nI 8)) 2)), z.2.1 + 5, uW2 z.2.2 (loN (tyX vv k) 7) (loN (iShr (tyX vv k) (nI 3)) 7) (2 * (2 + loN (iShr (tyX vv k) (nI 8)) 2)))
def tyS (vv : Int32) (X : Nat → Nat → Int32) : Nat → TyS | 0 => (xCl X, 0, 0) | k + 1 => tyI vv k (tyS vv X k)
theorem tyI_1 {vv : Int32} {k : Nat} {z : TyS} (h : 0 < loN (iShr (tyX vv k) (nI 6)) 3) : tyI vv k z = (xAp z.1 z.2.1 (lLt (loN (tyX vv k) 7)), z.2.1 + 1, uWi z.2.2 (loN (tyX vv k) 7)) := if_pos h
theorem tyI_2 {vv : Int32} {k : Nat} {z : TyS} (h : loN (iShr (tyX vv k) (nI 6)) 3 = 0) : tyI vv k z = (xAp (xAp (xAp (xAp (xAp z.1 z.2.1 40) (z.2.1 + 1) (lLt (loN (tyX vv k) 7))) (z.2.1 + 2) (lLt (loN (iShr (tyX vv k) (nI 3)) 7))) (z.2.1 + 3) 41) (z.2.1 + 4) (48 + (2 + loN (iShr (tyX vv k) (nI 8)) 2)), z.2.1 + 5, uW2 z.2.2 (loN (tyX vv k) 7) (loN (iShr (tyX vv k) (nI 3)) 7) (2 * (2 + loN (iShr (tyX vv k) (nI 8)) 2))) := if_neg (by omega)
theorem tyS_b (vv : Int32) (X : Nat → Nat → Int32) (k : Nat) : (tyS vv X k).2.1 ≤ 5 * k ∧ (tyS vv X k).2.2 < 167772160 ∧ (tyS vv X k).1 0 1 = nI (tyS vv X k).2.1 := by
  induction k with
  | zero => exact ⟨Nat.le_refl _, (by decide : 0 < 167772160), rfl⟩
  | succ k ih =>
    obtain ⟨h1, h2, h3⟩ := ih
    have ha := loN_lt (tyX vv k) (n := 7) (by decide)
    have hb := loN_lt (iShr (tyX vv k) (nI 3)) (n := 7) (by decide)
    show (tyI vv k (tyS vv X k)).2.1 ≤ 5 * (k + 1) ∧ (tyI vv k (tyS vv X k)).2.2 < 167772160 ∧ (tyI vv k (tyS vv X k)).1 0 1 = nI (tyI vv k (tyS vv X k)).2.1
    rcases Nat.eq_zero_or_pos (loN (iShr (tyX vv k) (nI 6)) 3) with h | h
    · rw [tyI_2 h]
      exact ⟨by show (tyS vv X k).2.1 + 5 ≤ _; omega, uW2_lt h2 (by omega) (by omega) _, rfl⟩
    · rw [tyI_1 h]
      exact ⟨by show (tyS vv X k).2.1 + 1 ≤ _; omega, uWi_lt h2 (by omega), rfl⟩
/-- all that types leaves: the text's content, its length, the tune -/
def tyE (vv : Int32) (X : Nat → Nat → Int32) : TyS := tyS vv X (1 + loN vv 4)
def cCt (S : Nat → Nat → Int32) (tl : Nat → Nat) (n k : Nat) : Int32 := if k = 3 then nI (tG S tl 20).2.2 else pCt S n k
def tdC (S : Nat → Nat → Int32) (tl : Nat → Nat) (n : Nat) : Nat → Int64 | 0 => 239 | k + 1 => 31 * tdC S tl n k + (cCt S tl n k).toInt64
def tdM1 (S : Nat → Nat → Int32) (k : Nat) (g : Int64) : Int64 := 31 * (31 * g + (pMsg S k 0).toInt64 + 10 * (pMsg S k 1).toInt64) + (pMsg S k 2).toInt64 + 100 * (pMsg S k 3).toInt64
def tdM2 (S : Nat → Nat → Int32) (k : Nat) (g : Int64) : Int64 := 31 * g + (pNote S k 0).toInt64 + 8 * (pNote S k 1).toInt64 + 64 * (pNote S k 2).toInt64 + 512 * (pNote S k 7).toInt64
def tdM (S : Nat → Nat → Int32) (g : Int64) : Nat → Int64 | 0 => g | k + 1 => tdM2 S k (tdM1 S k (tdM S g k))
def tdR (S : Nat → Nat → Int32) (g : Int64) : Nat → Int64 | 0 => g | k + 1 => 31 * tdR S g k + (pRm S (k / 6) (k % 6)).toInt64
def tdL (S : Nat → Nat → Int32) (g : Int64) : Nat → Int64 | 0 => g | k + 1 => 31 * tdL S g k + (S 15 k).toInt64
def tdV (S : Nat → Nat → Int32) (tl : Nat → Nat) (n : Nat) : Int64 := tdL S (tdR S (tdM S (tdC S tl n 13) 20) 36) 6

set_option maxHeartbeats 20000000 in
set_option maxRecDepth 100000 in
theorem c_L_types (l : Launch) (G : va_G) (T : Nat → ClassId) (sz : Nat) (w : Nat → Nat) (q : Nat → Nat) (qz : Nat → Nat) (h : Nat → Nat) (qs : Nat → Nat → Nat) (t : Nat → Nat) (gr : Nat → Nat) (u : Nat → Nat) (tr : Nat → Nat) (oc : Nat → Nat) (Sw : Nat → Nat → Int32) (S : Nat → Nat → Int32) (Z : Nat → Nat → Int32) (Sh : Nat → Nat → Int32) (Hs : Nat → Nat → Nat → Int32) (X : Nat → Nat → Int32) (Gg : Nat → Nat → Int32) (U : Nat → Nat → Int32) (K : Nat → Nat → Int32) (O : Nat → Nat → Int32) (n : Nat) (vv : Int32) (hlen : X 0 1 = nI n) (hn60 : n ≤ 60) : RWi l yL_types wsL_types 5 0 0 G T sz (oC T (w, q, qz, h, qs, t, gr, u, tr, oc) (Sw, S, Z, Sh, Hs, X, Gg, U, K, O)) [.ref (w 0), .int vv] (nI (tyE vv X).2.2) (oC T (w, q, qz, h, qs, t, gr, u, tr, oc) (Sw, S, Z, Sh, Hs, (tyE vv X).1, Gg, U, K, O)) := by
  refine Met.ofW (cc := cL_types) (maxL := 10) (ret := (some .int)) (by decide) rfl ?_
  intro p e s m args below meth c s₁ B hml hv
  obtain ⟨ha, hsz, hP, hK, hD0, hE0⟩ := hv
  have hx := B.exec
  have hb := B.bytes
  have hr := B.returns
  have hlocks := B.notSynchronized
  have hts := atoms_spec (ws := wsL_types) B.pre
  have hown : s.vm.findClass RL = some m.cls := findClass_of_methodNamed B.named
  have cx : CallFix p m c cL_types 10 s args wsL_types RL := ⟨hx, hb, hml, hown, hts⟩
  subst hsz
  have hD := hD0.self (sz := s.heap.size)
  generalize hAe : va_A (oC T (w, q, qz, h, qs, t, gr, u, tr, oc) (Sw, S, Z, Sh, Hs, X, Gg, U, K, O)) s.heap.size = A at hD hE0 ⊢
  have hE : gE A s s.heap := hE0
  have hA : ∀ q : Nat, s.heap.size ≤ q → A q := fun q h => by rw [← hAe]; exact Or.inr h
  have hS : va_S A s.heap s.heap [] := va_S.rf
  refine w_entry ha (Nat.le_of_ble_eq_true rfl) (fun ls hl => ?_)
  refine w_q (fun Q0 hQ => ?_)
  have hl : lv_has ls 10 [(0, .ref (w 0)), (1, .int vv)] := hl
  have hP : va_P G vwCl (oC T (w, q, qz, h, qs, t, gr, u, tr, oc) (Sw, S, Z, Sh, Hs, X, Gg, U, K, O)) s.heap := hP
  have hD : va_D A (oC T (w, q, qz, h, qs, t, gr, u, tr, oc) (Sw, S, Z, Sh, Hs, X, Gg, U, K, O)) := hD
  skip
  refine w_h (fun H locs hHe hLe => ?_)
  have hP : va_P G vwCl (oC T (w, q, qz, h, qs, t, gr, u, tr, oc) (Sw, S, Z, Sh, Hs, X, Gg, U, K, O)) H := by rw [hHe]; exact hP
  have hS : va_S A s.heap H locs := by rw [hHe, hLe]; exact hS
  refine lv_aload_n hx hb dL_types_0 rfl (lv_at hl 0 rfl) ?_
  refine k_rwV (As := []) (rest := []) (wc := (oC T (w, q, qz, h, qs, t, gr, u, tr, oc) (Sw, S, Z, Sh, Hs, X, Gg, U, K, O))) (wr := []) (w1 := (oC T (w, q, qz, h, qs, t, gr, u, tr, oc) (Sw, S, Z, Sh, Hs, xCl X, Gg, U, K, O))) (d := 1) (mc := 0) (ms := 0) (v := nI n) cx (w_X7_clearBuffer l G T H.size w q qz h qs t gr u tr oc Sw S Z Sh Hs X Gg U K O n hlen hn60) (cwV 0 hts gL_types_X7_clearBuffer rfl rfl rfl (by decide +kernel) ⟨Nat.le_of_ble_eq_true rfl, Nat.le_of_ble_eq_true rfl⟩) (kN_full hP hD hS hA hE hK) (va_recv hK hP (ci := 7) (q0 := 0) rfl rfl) rfl hl.1 rfl (Nat.le_of_ble_eq_true rfl) dL_types_1 ⟨Nat.le_of_ble_eq_true rfl, Nat.le_of_ble_eq_true rfl⟩ (fun H locs hP hD hS hz => ?_)
  have hP : va_P G vwCl (oC T (w, q, qz, h, qs, t, gr, u, tr, oc) (Sw, S, Z, Sh, Hs, xCl X, Gg, U, K, O)) H := hP
  have hD : va_D A (oC T (w, q, qz, h, qs, t, gr, u, tr, oc) (Sw, S, Z, Sh, Hs, xCl X, Gg, U, K, O)) := hD
  refine lv_pop hx hb dL_types_4 rfl ?_
  refine n_iconst hx hb 0 dL_types_5 (by decide) ?_
  refine lv_istore_n (lv' := [(2, .int (nI 0)), (0, .ref (w 0)), (1, .int vv)]) hx hb dL_types_6 rfl hl (by decide) rfl (fun ls hl => ?_)
  refine n_iconst hx hb 1 dL_types_7 (by decide) ?_
  refine lv_iload_n hx hb dL_types_8 rfl (lv_at hl 2 rfl) ?_
  refine n_iconst hx hb 4 dL_types_9 (by decide) ?_
  refine k_roS (As := [.int vv, .int (nI 4)]) (rest := [.int (nI 1)]) (wc := []) (d := 0) (v := nI (loN vv 4)) cx (c_L_low l G T A vv 4 (by omega) (by omega)) (va_cwS 2 hts gL_types_L_low rfl rfl rfl (by decide +kernel) ⟨Nat.le_of_ble_eq_true rfl, Nat.le_of_ble_eq_true rfl⟩) (hP.sub (ws' := []) [] rfl) hK (hE.kept hS.2.1) rfl hl.1 rfl (Nat.le_of_ble_eq_true rfl) dL_types_10 ⟨Nat.le_of_ble_eq_true rfl, Nat.le_of_ble_eq_true rfl⟩ ?_
  refine n_iadd (a := 1) (b := loN vv 4) hx hb dL_types_13 ?_
  refine lv_istore_n (lv' := [(3, .int (nI (1 + (loN vv 4)))), (2, .int (nI 0)), (0, .ref (w 0)), (1, .int vv)]) hx hb dL_types_14 rfl hl (by decide) rfl (fun ls hl => ?_)
  refine n_iconst hx hb 0 dL_types_15 (by decide) ?_
  refine lv_istore (lv' := [(4, .int (nI 0)), (3, .int (nI (1 + (loN vv 4)))), (2, .int (nI 0)), (0, .ref (w 0)), (1, .int vv)]) hx hb dL_types_16 hl (by decide) rfl (fun ls hl => ?_)
  have L18 : ∀ (n9 k : Nat) (hk1 : k ≤ 1 + loN vv 4) (hk2 : 1 + loN vv 4 - k < n9) (x4 : Int32) (x2 : Int32) (B_1 : Nat → Nat → Int32) (hx4 : x4 = nI k) (hx2 : x2 = nI (tyS vv X k).2.2) (hB_1 : B_1 = (tyS vv X k).1) (H : Heap) (locs : List Loc) (hP : va_P G vwCl (oC T (w, q, qz, h, qs, t, gr, u, tr, oc) (Sw, S, Z, Sh, Hs, B_1, Gg, U, K, O)) H) (hD : va_D A (oC T (w, q, qz, h, qs, t, gr, u, tr, oc) (Sw, S, Z, Sh, Hs, B_1, Gg, U, K, O))) (hS : va_S A s.heap H locs) (ls : Array Slot) (hl : lv_has ls 10 [(4, .int x4), (3, .int (nI (1 + (loN vv 4)))), (2, .int x2), (0, .ref (w 0)), (1, .int vv)]), W p l e (headSpec wsL_types (rmD 5 0 0)).room s m args below meth c H locs 0 0 Q0 (F0 m 18 ls []) := by
    intro n9
    induction n9 with
    | zero => intros; omega
    | succ n9 ih18 =>
      intro k hk1 hk2 x4 x2 B_1 hx4 hx2 hB_1 H locs hP hD hS ls hl
      subst hx4 hx2 hB_1
      obtain ⟨htb, htu, htl⟩ := tyS_b vv X k
      have hlo := loN_lt vv (n := 4) (by decide)
      have hA7 := loN_lt (tyX vv k) (n := 7) (by decide)
      have hB7 := loN_lt (iShr (tyX vv k) (nI 3)) (n := 7) (by decide)
      have hT2 := loN_lt (iShr (tyX vv k) (nI 8)) (n := 2) (by decide)
      have hG3 := loN_lt (iShr (tyX vv k) (nI 6)) (n := 3) (by decide)
      have hlA := lLt_b hA7
      have hlB := lLt_b hB7
      refine lv_iload hx hb dL_types_18 (lv_at hl 0 rfl) ?_
      refine lv_iload_n hx hb dL_types_20 rfl (lv_at hl 1 rfl) ?_
      refine n_icmp_ge (a := k) (b := 1 + (loN vv 4)) (tgt := 186) hx hb (by omega) (by omega) dL_types_21 (by decide) (fun c_2 => ?_) (fun c_3 => ?_)
      · skip
        have hke : k = 1 + loN vv 4 := (by omega)
        subst hke
        refine lv_iload_n hx hb dL_types_186 rfl (lv_at hl 2 rfl) ?_
        subst hQ
        have hP9 : va_P G vwCl (oC T (w, q, qz, h, qs, t, gr, u, tr, oc) (Sw, S, Z, Sh, Hs, (tyE vv X).1, Gg, U, K, O)) H := hP
        have hD9 : va_D A (oC T (w, q, qz, h, qs, t, gr, u, tr, oc) (Sw, S, Z, Sh, Hs, (tyE vv X).1, Gg, U, K, O)) := hD
        exact e_rwi hx hb hr hlocks hS rfl hP9 hD9 dL_types_187
      · skip
        refine lv_iload_n hx hb dL_types_24 rfl (lv_at hl 4 rfl) ?_
        refine n_iconst hx hb 3 dL_types_25 (by decide) ?_
        refine lv_iload hx hb dL_types_26 (lv_at hl 0 rfl) ?_
        refine n_imul (a := 3) (b := k) hx hb dL_types_28 ?_
        refine n_iconst hx hb 2 dL_types_29 (by decide) ?_
        refine n_iadd (a := 3 * k) (b := 2) hx hb dL_types_30 ?_
        refine x_ishr hx hb dL_types_31 ?_
        refine lv_istore (lv' := [(5, .int (iShr vv (nI (3 * k + 2)))), (4, .int (nI k)), (3, .int (nI (1 + (loN vv 4)))), (2, .int (nI (tyS vv X k).2.2)), (0, .ref (w 0)), (1, .int vv)]) hx hb dL_types_32 hl (by decide) rfl (fun ls hl => ?_)
        have hl : lv_has ls 10 [(5, .int (tyX vv k)), (4, .int (nI k)), (3, .int (nI (1 + (loN vv 4)))), (2, .int (nI (tyS vv X k).2.2)), (0, .ref (w 0)), (1, .int vv)] := hl
        refine lv_iload hx hb dL_types_34 (lv_at hl 0 rfl) ?_
        refine lv_bipush (v := nI 7) hx hb dL_types_36 (by decide) ?_
        refine k_roS (As := [.int (tyX vv k), .int (nI 7)]) (rest := []) (wc := []) (d := 0) (v := nI (loN (tyX vv k) 7)) cx (c_L_low l G T A (tyX vv k) 7 (by omega) (by omega)) (va_cwS 2 hts gL_types_L_low rfl rfl rfl (by decide +kernel) ⟨Nat.le_of_ble_eq_true rfl, Nat.le_of_ble_eq_true rfl⟩) (hP.sub (ws' := []) [] rfl) hK (hE.kept hS.2.1) rfl hl.1 rfl (Nat.le_of_ble_eq_true rfl) dL_types_38 ⟨Nat.le_of_ble_eq_true rfl, Nat.le_of_ble_eq_true rfl⟩ ?_
        refine lv_istore (lv' := [(6, .int (nI (loN (tyX vv k) 7))), (5, .int (tyX vv k)), (4, .int (nI k)), (3, .int (nI (1 + (loN vv 4)))), (2, .int (nI (tyS vv X k).2.2)), (0, .ref (w 0)), (1, .int vv)]) hx hb dL_types_41 hl (by decide) rfl (fun ls hl => ?_)
        refine lv_iload hx hb dL_types_43 (lv_at hl 1 rfl) ?_
        refine n_iconst hx hb 3 dL_types_45 (by decide) ?_
        refine x_ishr hx hb dL_types_46 ?_
        refine lv_bipush (v := nI 7) hx hb dL_types_47 (by decide) ?_
        refine k_roS (As := [.int (iShr (tyX vv k) (nI 3)), .int (nI 7)]) (rest := []) (wc := []) (d := 0) (v := nI (loN (iShr (tyX vv k) (nI 3)) 7)) cx (c_L_low l G T A (iShr (tyX vv k) (nI 3)) 7 (by omega) (by omega)) (va_cwS 2 hts gL_types_L_low rfl rfl rfl (by decide +kernel) ⟨Nat.le_of_ble_eq_true rfl, Nat.le_of_ble_eq_true rfl⟩) (hP.sub (ws' := []) [] rfl) hK (hE.kept hS.2.1) rfl hl.1 rfl (Nat.le_of_ble_eq_true rfl) dL_types_49 ⟨Nat.le_of_ble_eq_true rfl, Nat.le_of_ble_eq_true rfl⟩ ?_
        refine lv_istore (lv' := [(7, .int (nI (loN (iShr (tyX vv k) (nI 3)) 7))), (6, .int (nI (loN (tyX vv k) 7))), (5, .int (tyX vv k)), (4, .int (nI k)), (3, .int (nI (1 + (loN vv 4)))), (2, .int (nI (tyS vv X k).2.2)), (0, .ref (w 0)), (1, .int vv)]) hx hb dL_types_52 hl (by decide) rfl (fun ls hl => ?_)
        refine lv_iload hx hb dL_types_54 (lv_at hl 2 rfl) ?_
        refine lv_bipush (v := nI 6) hx hb dL_types_56 (by decide) ?_
        refine x_ishr hx hb dL_types_58 ?_
        refine n_iconst hx hb 3 dL_types_59 (by decide) ?_
        refine k_roS (As := [.int (iShr (tyX vv k) (nI 6)), .int (nI 3)]) (rest := []) (wc := []) (d := 0) (v := nI (loN (iShr (tyX vv k) (nI 6)) 3)) cx (c_L_low l G T A (iShr (tyX vv k) (nI 6)) 3 (by omega) (by omega)) (va_cwS 2 hts gL_types_L_low rfl rfl rfl (by decide +kernel) ⟨Nat.le_of_ble_eq_true rfl, Nat.le_of_ble_eq_true rfl⟩) (hP.sub (ws' := []) [] rfl) hK (hE.kept hS.2.1) rfl hl.1 rfl (Nat.le_of_ble_eq_true rfl) dL_types_60 ⟨Nat.le_of_ble_eq_true rfl, Nat.le_of_ble_eq_true rfl⟩ ?_
        refine n_if_le (a := loN (iShr (tyX vv k) (nI 6)) 3) (tgt := 86) hx hb (by omega) dL_types_63 (by decide) (fun c_4 => ?_) (fun c_5 => ?_)
        · skip
          refine n_iconst hx hb 2 dL_types_86 (by decide) ?_
          refine lv_iload hx hb dL_types_87 (lv_at hl 2 rfl) ?_
          refine lv_bipush (v := nI 8) hx hb dL_types_89 (by decide) ?_
          refine x_ishr hx hb dL_types_91 ?_
          refine n_iconst hx hb 2 dL_types_92 (by decide) ?_
          refine k_roS (As := [.int (iShr (tyX vv k) (nI 8)), .int (nI 2)]) (rest := [.int (nI 2)]) (wc := []) (d := 0) (v := nI (loN (iShr (tyX vv k) (nI 8)) 2)) cx (c_L_low l G T A (iShr (tyX vv k) (nI 8)) 2 (by omega) (by omega)) (va_cwS 2 hts gL_types_L_low rfl rfl rfl (by decide +kernel) ⟨Nat.le_of_ble_eq_true rfl, Nat.le_of_ble_eq_true rfl⟩) (hP.sub (ws' := []) [] rfl) hK (hE.kept hS.2.1) rfl hl.1 rfl (Nat.le_of_ble_eq_true rfl) dL_types_93 ⟨Nat.le_of_ble_eq_true rfl, Nat.le_of_ble_eq_true rfl⟩ ?_
          refine n_iadd (a := 2) (b := loN (iShr (tyX vv k) (nI 8)) 2) hx hb dL_types_96 ?_
          refine lv_istore (lv' := [(8, .int (nI (2 + (loN (iShr (tyX vv k) (nI 8)) 2)))), (7, .int (nI (loN (iShr (tyX vv k) (nI 3)) 7))), (6, .int (nI (loN (tyX vv k) 7))), (5, .int (tyX vv k)), (4, .int (nI k)), (3, .int (nI (1 + (loN vv 4)))), (2, .int (nI (tyS vv X k).2.2)), (0, .ref (w 0)), (1, .int vv)]) hx hb dL_types_97 hl (by decide) rfl (fun ls hl => ?_)
          refine lv_aload_n hx hb dL_types_99 rfl (lv_at hl 7 rfl) ?_
          refine lv_bipush (v := nI 40) hx hb dL_types_100 (by decide) ?_
          refine k_lwS (As := [.ref (w 0), .int (nI 40)]) (rest := []) (wc := (oC T (w, q, qz, h, qs, t, gr, u, tr, oc) (Sw, S, Z, Sh, Hs, (tyS vv X k).1, Gg, U, K, O))) (wr := []) (w1 := (oC T (w, q, qz, h, qs, t, gr, u, tr, oc) (Sw, S, Z, Sh, Hs, xAp (tyS vv X k).1 (tyS vv X k).2.1 40, Gg, U, K, O))) (d := 3) (mc := 0) (ms := 0) (v := nI ((tyS vv X k).2.1 + 1)) cx (c_L_append l G T H.size w q qz h qs t gr u tr oc Sw S Z Sh Hs (tyS vv X k).1 Gg U K O (tyS vv X k).2.1 40 (by first | assumption | rfl | omega) (by omega) (by omega) (by omega) (by omega)) (vx_cwSW 2 hts gL_types_L_append rfl rfl rfl (by decide +kernel) ⟨Nat.le_of_ble_eq_true rfl, Nat.le_of_ble_eq_true rfl⟩) (kN_full hP hD hS hA hE hK) rfl hl.1 rfl (Nat.le_of_ble_eq_true rfl) dL_types_102 ⟨Nat.le_of_ble_eq_true rfl, Nat.le_of_ble_eq_true rfl⟩ (fun H locs hP hD hS hz => ?_)
          have hP : va_P G vwCl (oC T (w, q, qz, h, qs, t, gr, u, tr, oc) (Sw, S, Z, Sh, Hs, xAp (tyS vv X k).1 (tyS vv X k).2.1 40, Gg, U, K, O)) H := hP
          have hD : va_D A (oC T (w, q, qz, h, qs, t, gr, u, tr, oc) (Sw, S, Z, Sh, Hs, xAp (tyS vv X k).1 (tyS vv X k).2.1 40, Gg, U, K, O)) := hD
          refine lv_pop hx hb dL_types_105 rfl ?_
          refine lv_aload_n hx hb dL_types_106 rfl (lv_at hl 7 rfl) ?_
          refine lv_iload hx hb dL_types_107 (lv_at hl 2 rfl) ?_
          refine k_roS (As := [.int (nI (loN (tyX vv k) 7))]) (rest := [.ref (w 0)]) (wc := []) (d := 0) (v := nI (lLt (loN (tyX vv k) 7))) cx (c_L_letter l G T A (loN (tyX vv k) 7) (by omega)) (va_cwS 1 hts gL_types_L_letter rfl rfl rfl (by decide +kernel) ⟨Nat.le_of_ble_eq_true rfl, Nat.le_of_ble_eq_true rfl⟩) (hP.sub (ws' := []) [] rfl) hK (hE.kept hS.2.1) rfl hl.1 rfl (Nat.le_of_ble_eq_true rfl) dL_types_109 ⟨Nat.le_of_ble_eq_true rfl, Nat.le_of_ble_eq_true rfl⟩ ?_
          refine k_lwS (As := [.ref (w 0), .int (nI (lLt (loN (tyX vv k) 7)))]) (rest := []) (wc := (oC T (w, q, qz, h, qs, t, gr, u, tr, oc) (Sw, S, Z, Sh, Hs, xAp (tyS vv X k).1 (tyS vv X k).2.1 40, Gg, U, K, O))) (wr := []) (w1 := (oC T (w, q, qz, h, qs, t, gr, u, tr, oc) (Sw, S, Z, Sh, Hs, xAp (xAp (tyS vv X k).1 (tyS vv X k).2.1 40) ((tyS vv X k).2.1 + 1) (lLt (loN (tyX vv k) 7)), Gg, U, K, O))) (d := 3) (mc := 0) (ms := 0) (v := nI (((tyS vv X k).2.1 + 1) + 1)) cx (c_L_append l G T H.size w q qz h qs t gr u tr oc Sw S Z Sh Hs (xAp (tyS vv X k).1 (tyS vv X k).2.1 40) Gg U K O ((tyS vv X k).2.1 + 1) (lLt (loN (tyX vv k) 7)) (by first | assumption | rfl | omega) (by omega) (by omega) (by omega) (by omega)) (vx_cwSW 2 hts gL_types_L_append rfl rfl rfl (by decide +kernel) ⟨Nat.le_of_ble_eq_true rfl, Nat.le_of_ble_eq_true rfl⟩) (kN_full hP hD hS hA hE hK) rfl hl.1 rfl (Nat.le_of_ble_eq_true rfl) dL_types_112 ⟨Nat.le_of_ble_eq_true rfl, Nat.le_of_ble_eq_true rfl⟩ (fun H locs hP hD hS hz => ?_)
          have hP : va_P G vwCl (oC T (w, q, qz, h, qs, t, gr, u, tr, oc) (Sw, S, Z, Sh, Hs, xAp (xAp (tyS vv X k).1 (tyS vv X k).2.1 40) ((tyS vv X k).2.1 + 1) (lLt (loN (tyX vv k) 7)), Gg, U, K, O)) H := hP
          have hD : va_D A (oC T (w, q, qz, h, qs, t, gr, u, tr, oc) (Sw, S, Z, Sh, Hs, xAp (xAp (tyS vv X k).1 (tyS vv X k).2.1 40) ((tyS vv X k).2.1 + 1) (lLt (loN (tyX vv k) 7)), Gg, U, K, O)) := hD
          refine lv_pop hx hb dL_types_115 rfl ?_
          refine lv_aload_n hx hb dL_types_116 rfl (lv_at hl 7 rfl) ?_
          refine lv_iload hx hb dL_types_117 (lv_at hl 1 rfl) ?_
          refine k_roS (As := [.int (nI (loN (iShr (tyX vv k) (nI 3)) 7))]) (rest := [.ref (w 0)]) (wc := []) (d := 0) (v := nI (lLt (loN (iShr (tyX vv k) (nI 3)) 7))) cx (c_L_letter l G T A (loN (iShr (tyX vv k) (nI 3)) 7) (by omega)) (va_cwS 1 hts gL_types_L_letter rfl rfl rfl (by decide +kernel) ⟨Nat.le_of_ble_eq_true rfl, Nat.le_of_ble_eq_true rfl⟩) (hP.sub (ws' := []) [] rfl) hK (hE.kept hS.2.1) rfl hl.1 rfl (Nat.le_of_ble_eq_true rfl) dL_types_119 ⟨Nat.le_of_ble_eq_true rfl, Nat.le_of_ble_eq_true rfl⟩ ?_
          refine k_lwS (As := [.ref (w 0), .int (nI (lLt (loN (iShr (tyX vv k) (nI 3)) 7)))]) (rest := []) (wc := (oC T (w, q, qz, h, qs, t, gr, u, tr, oc) (Sw, S, Z, Sh, Hs, xAp (xAp (tyS vv X k).1 (tyS vv X k).2.1 40) ((tyS vv X k).2.1 + 1) (lLt (loN (tyX vv k) 7)), Gg, U, K, O))) (wr := []) (w1 := (oC T (w, q, qz, h, qs, t, gr, u, tr, oc) (Sw, S, Z, Sh, Hs, xAp (xAp (xAp (tyS vv X k).1 (tyS vv X k).2.1 40) ((tyS vv X k).2.1 + 1) (lLt (loN (tyX vv k) 7))) ((tyS vv X k).2.1 + 2) (lLt (loN (iShr (tyX vv k) (nI 3)) 7)), Gg, U, K, O))) (d := 3) (mc := 0) (ms := 0) (v := nI (((tyS vv X k).2.1 + 2) + 1)) cx (c_L_append l G T H.size w q qz h qs t gr u tr oc Sw S Z Sh Hs (xAp (xAp (tyS vv X k).1 (tyS vv X k).2.1 40) ((tyS vv X k).2.1 + 1) (lLt (loN (tyX vv k) 7))) Gg U K O ((tyS vv X k).2.1 + 2) (lLt (loN (iShr (tyX vv k) (nI 3)) 7)) (by first | assumption | rfl | omega) (by omega) (by omega) (by omega) (by omega)) (vx_cwSW 2 hts gL_types_L_append rfl rfl rfl (by decide +kernel) ⟨Nat.le_of_ble_eq_true rfl, Nat.le_of_ble_eq_true rfl⟩) (kN_full hP hD hS hA hE hK) rfl hl.1 rfl (Nat.le_of_ble_eq_true rfl) dL_types_122 ⟨Nat.le_of_ble_eq_true rfl, Nat.le_of_ble_eq_true rfl⟩ (fun H locs hP hD hS hz => ?_)
          have hP : va_P G vwCl (oC T (w, q, qz, h, qs, t, gr, u, tr, oc) (Sw, S, Z, Sh, Hs, xAp (xAp (xAp (tyS vv X k).1 (tyS vv X k).2.1 40) ((tyS vv X k).2.1 + 1) (lLt (loN (tyX vv k) 7))) ((tyS vv X k).2.1 + 2) (lLt (loN (iShr (tyX vv k) (nI 3)) 7)), Gg, U, K, O)) H := hP
          have hD : va_D A (oC T (w, q, qz, h, qs, t, gr, u, tr, oc) (Sw, S, Z, Sh, Hs, xAp (xAp (xAp (tyS vv X k).1 (tyS vv X k).2.1 40) ((tyS vv X k).2.1 + 1) (lLt (loN (tyX vv k) 7))) ((tyS vv X k).2.1 + 2) (lLt (loN (iShr (tyX vv k) (nI 3)) 7)), Gg, U, K, O)) := hD
          refine lv_pop hx hb dL_types_125 rfl ?_
          refine lv_aload_n hx hb dL_types_126 rfl (lv_at hl 7 rfl) ?_
          refine lv_bipush (v := nI 41) hx hb dL_types_127 (by decide) ?_
          refine k_lwS (As := [.ref (w 0), .int (nI 41)]) (rest := []) (wc := (oC T (w, q, qz, h, qs, t, gr, u, tr, oc) (Sw, S, Z, Sh, Hs, xAp (xAp (xAp (tyS vv X k).1 (tyS vv X k).2.1 40) ((tyS vv X k).2.1 + 1) (lLt (loN (tyX vv k) 7))) ((tyS vv X k).2.1 + 2) (lLt (loN (iShr (tyX vv k) (nI 3)) 7)), Gg, U, K, O))) (wr := []) (w1 := (oC T (w, q, qz, h, qs, t, gr, u, tr, oc) (Sw, S, Z, Sh, Hs, xAp (xAp (xAp (xAp (tyS vv X k).1 (tyS vv X k).2.1 40) ((tyS vv X k).2.1 + 1) (lLt (loN (tyX vv k) 7))) ((tyS vv X k).2.1 + 2) (lLt (loN (iShr (tyX vv k) (nI 3)) 7))) ((tyS vv X k).2.1 + 3) 41, Gg, U, K, O))) (d := 3) (mc := 0) (ms := 0) (v := nI (((tyS vv X k).2.1 + 3) + 1)) cx (c_L_append l G T H.size w q qz h qs t gr u tr oc Sw S Z Sh Hs (xAp (xAp (xAp (tyS vv X k).1 (tyS vv X k).2.1 40) ((tyS vv X k).2.1 + 1) (lLt (loN (tyX vv k) 7))) ((tyS vv X k).2.1 + 2) (lLt (loN (iShr (tyX vv k) (nI 3)) 7))) Gg U K O ((tyS vv X k).2.1 + 3) 41 (by first | assumption | rfl | omega) (by omega) (by omega) (by omega) (by omega)) (vx_cwSW 2 hts gL_types_L_append rfl rfl rfl (by decide +kernel) ⟨Nat.le_of_ble_eq_true rfl, Nat.le_of_ble_eq_true rfl⟩) (kN_full hP hD hS hA hE hK) rfl hl.1 rfl (Nat.le_of_ble_eq_true rfl) dL_types_129 ⟨Nat.le_of_ble_eq_true rfl, Nat.le_of_ble_eq_true rfl⟩ (fun H locs hP hD hS hz => ?_)
          have hP : va_P G vwCl (oC T (w, q, qz, h, qs, t, gr, u, tr, oc) (Sw, S, Z, Sh, Hs, xAp (xAp (xAp (xAp (tyS vv X k).1 (tyS vv X k).2.1 40) ((tyS vv X k).2.1 + 1) (lLt (loN (tyX vv k) 7))) ((tyS vv X k).2.1 + 2) (lLt (loN (iShr (tyX vv k) (nI 3)) 7))) ((tyS vv X k).2.1 + 3) 41, Gg, U, K, O)) H := hP
          have hD : va_D A (oC T (w, q, qz, h, qs, t, gr, u, tr, oc) (Sw, S, Z, Sh, Hs, xAp (xAp (xAp (xAp (tyS vv X k).1 (tyS vv X k).2.1 40) ((tyS vv X k).2.1 + 1) (lLt (loN (tyX vv k) 7))) ((tyS vv X k).2.1 + 2) (lLt (loN (iShr (tyX vv k) (nI 3)) 7))) ((tyS vv X k).2.1 + 3) 41, Gg, U, K, O)) := hD
          refine lv_pop hx hb dL_types_132 rfl ?_
          refine lv_aload_n hx hb dL_types_133 rfl (lv_at hl 7 rfl) ?_
          refine lv_bipush (v := nI 48) hx hb dL_types_134 (by decide) ?_
          refine lv_iload hx hb dL_types_136 (lv_at hl 0 rfl) ?_
          refine n_iadd (a := 48) (b := 2 + (loN (iShr (tyX vv k) (nI 8)) 2)) hx hb dL_types_138 ?_
          refine k_lwS (As := [.ref (w 0), .int (nI (48 + (2 + (loN (iShr (tyX vv k) (nI 8)) 2))))]) (rest := []) (wc := (oC T (w, q, qz, h, qs, t, gr, u, tr, oc) (Sw, S, Z, Sh, Hs, xAp (xAp (xAp (xAp (tyS vv X k).1 (tyS vv X k).2.1 40) ((tyS vv X k).2.1 + 1) (lLt (loN (tyX vv k) 7))) ((tyS vv X k).2.1 + 2) (lLt (loN (iShr (tyX vv k) (nI 3)) 7))) ((tyS vv X k).2.1 + 3) 41, Gg, U, K, O))) (wr := []) (w1 := (oC T (w, q, qz, h, qs, t, gr, u, tr, oc) (Sw, S, Z, Sh, Hs, xAp (xAp (xAp (xAp (xAp (tyS vv X k).1 (tyS vv X k).2.1 40) ((tyS vv X k).2.1 + 1) (lLt (loN (tyX vv k) 7))) ((tyS vv X k).2.1 + 2) (lLt (loN (iShr (tyX vv k) (nI 3)) 7))) ((tyS vv X k).2.1 + 3) 41) ((tyS vv X k).2.1 + 4) (48 + (2 + (loN (iShr (tyX vv k) (nI 8)) 2))), Gg, U, K, O))) (d := 3) (mc := 0) (ms := 0) (v := nI (((tyS vv X k).2.1 + 4) + 1)) cx (c_L_append l G T H.size w q qz h qs t gr u tr oc Sw S Z Sh Hs (xAp (xAp (xAp (xAp (tyS vv X k).1 (tyS vv X k).2.1 40) ((tyS vv X k).2.1 + 1) (lLt (loN (tyX vv k) 7))) ((tyS vv X k).2.1 + 2) (lLt (loN (iShr (tyX vv k) (nI 3)) 7))) ((tyS vv X k).2.1 + 3) 41) Gg U K O ((tyS vv X k).2.1 + 4) (48 + (2 + (loN (iShr (tyX vv k) (nI 8)) 2))) (by first | assumption | rfl | omega) (by omega) (by omega) (by omega) (by omega)) (vx_cwSW 2 hts gL_types_L_append rfl rfl rfl (by decide +kernel) ⟨Nat.le_of_ble_eq_true rfl, Nat.le_of_ble_eq_true rfl⟩) (kN_full hP hD hS hA hE hK) rfl hl.1 rfl (Nat.le_of_ble_eq_true rfl) dL_types_139 ⟨Nat.le_of_ble_eq_true rfl, Nat.le_of_ble_eq_true rfl⟩ (fun H locs hP hD hS hz => ?_)
          have hP : va_P G vwCl (oC T (w, q, qz, h, qs, t, gr, u, tr, oc) (Sw, S, Z, Sh, Hs, xAp (xAp (xAp (xAp (xAp (tyS vv X k).1 (tyS vv X k).2.1 40) ((tyS vv X k).2.1 + 1) (lLt (loN (tyX vv k) 7))) ((tyS vv X k).2.1 + 2) (lLt (loN (iShr (tyX vv k) (nI 3)) 7))) ((tyS vv X k).2.1 + 3) 41) ((tyS vv X k).2.1 + 4) (48 + (2 + (loN (iShr (tyX vv k) (nI 8)) 2))), Gg, U, K, O)) H := hP
          have hD : va_D A (oC T (w, q, qz, h, qs, t, gr, u, tr, oc) (Sw, S, Z, Sh, Hs, xAp (xAp (xAp (xAp (xAp (tyS vv X k).1 (tyS vv X k).2.1 40) ((tyS vv X k).2.1 + 1) (lLt (loN (tyX vv k) 7))) ((tyS vv X k).2.1 + 2) (lLt (loN (iShr (tyX vv k) (nI 3)) 7))) ((tyS vv X k).2.1 + 3) 41) ((tyS vv X k).2.1 + 4) (48 + (2 + (loN (iShr (tyX vv k) (nI 8)) 2))), Gg, U, K, O)) := hD
          refine lv_pop hx hb dL_types_142 rfl ?_
          refine n_iconst hx hb 0 dL_types_143 (by decide) ?_
          refine lv_istore (lv' := [(9, .int (nI 0)), (8, .int (nI (2 + (loN (iShr (tyX vv k) (nI 8)) 2)))), (7, .int (nI (loN (iShr (tyX vv k) (nI 3)) 7))), (6, .int (nI (loN (tyX vv k) 7))), (5, .int (tyX vv k)), (4, .int (nI k)), (3, .int (nI (1 + (loN vv 4)))), (2, .int (nI (tyS vv X k).2.2)), (0, .ref (w 0)), (1, .int vv)]) hx hb dL_types_144 hl (by decide) rfl (fun ls hl => ?_)
          have L146_i_6 : ∀ (n9 j : Nat) (hk1 : j ≤ 2 * (2 + loN (iShr (tyX vv k) (nI 8)) 2)) (hk2 : 2 * (2 + loN (iShr (tyX vv k) (nI 8)) 2) - j < n9) (x9 : Int32) (x2 : Int32) (hx9 : x9 = nI j) (hx2 : x2 = nI (uW2 (tyS vv X k).2.2 (loN (tyX vv k) 7) (loN (iShr (tyX vv k) (nI 3)) 7) j)) (H : Heap) (locs : List Loc) (hP : va_P G vwCl (oC T (w, q, qz, h, qs, t, gr, u, tr, oc) (Sw, S, Z, Sh, Hs, xAp (xAp (xAp (xAp (xAp (tyS vv X k).1 (tyS vv X k).2.1 40) ((tyS vv X k).2.1 + 1) (lLt (loN (tyX vv k) 7))) ((tyS vv X k).2.1 + 2) (lLt (loN (iShr (tyX vv k) (nI 3)) 7))) ((tyS vv X k).2.1 + 3) 41) ((tyS vv X k).2.1 + 4) (48 + (2 + (loN (iShr (tyX vv k) (nI 8)) 2))), Gg, U, K, O)) H) (hD : va_D A (oC T (w, q, qz, h, qs, t, gr, u, tr, oc) (Sw, S, Z, Sh, Hs, xAp (xAp (xAp (xAp (xAp (tyS vv X k).1 (tyS vv X k).2.1 40) ((tyS vv X k).2.1 + 1) (lLt (loN (tyX vv k) 7))) ((tyS vv X k).2.1 + 2) (lLt (loN (iShr (tyX vv k) (nI 3)) 7))) ((tyS vv X k).2.1 + 3) 41) ((tyS vv X k).2.1 + 4) (48 + (2 + (loN (iShr (tyX vv k) (nI 8)) 2))), Gg, U, K, O))) (hS : va_S A s.heap H locs) (ls : Array Slot) (hl : lv_has ls 10 [(9, .int x9), (8, .int (nI (2 + (loN (iShr (tyX vv k) (nI 8)) 2)))), (7, .int (nI (loN (iShr (tyX vv k) (nI 3)) 7))), (6, .int (nI (loN (tyX vv k) 7))), (5, .int (tyX vv k)), (4, .int (nI k)), (3, .int (nI (1 + (loN vv 4)))), (2, .int x2), (0, .ref (w 0)), (1, .int vv)]), W p l e (headSpec wsL_types (rmD 5 0 0)).room s m args below meth c H locs 0 0 Q0 (F0 m 146 ls []) := by
            intro n9
            induction n9 with
            | zero => intros; omega
            | succ n9 ih146 =>
              intro j hk1 hk2 x9 x2 hx9 hx2 H locs hP hD hS ls hl
              subst hx9 hx2
              have htw := uW2_lt htu (a := loN (tyX vv k) 7) (b := loN (iShr (tyX vv k) (nI 3)) 7) (by omega) (by omega) j
              refine lv_iload hx hb dL_types_146 (lv_at hl 0 rfl) ?_
              refine n_iconst hx hb 2 dL_types_148 (by decide) ?_
              refine lv_iload hx hb dL_types_149 (lv_at hl 1 rfl) ?_
              refine n_imul (a := 2) (b := 2 + (loN (iShr (tyX vv k) (nI 8)) 2)) hx hb dL_types_151 ?_
              refine n_icmp_ge (a := j) (b := 2 * (2 + (loN (iShr (tyX vv k) (nI 8)) 2))) (tgt := 180) hx hb (by omega) (by omega) dL_types_152 (by decide) (fun c_7 => ?_) (fun c_8 => ?_)
              · skip
                refine lv_iinc (v := nI (k + 1)) (lv' := [(4, .int (nI (k + 1))), (9, .int (nI j)), (8, .int (nI (2 + (loN (iShr (tyX vv k) (nI 8)) 2)))), (7, .int (nI (loN (iShr (tyX vv k) (nI 3)) 7))), (6, .int (nI (loN (tyX vv k) 7))), (5, .int (tyX vv k)), (3, .int (nI (1 + (loN vv 4)))), (2, .int (nI (uW2 (tyS vv X k).2.2 (loN (tyX vv k) 7) (loN (iShr (tyX vv k) (nI 3)) 7) j))), (0, .ref (w 0)), (1, .int vv)]) hx hb dL_types_180 hl (k := 5) rfl (n_inc k 1 rfl) (by decide) rfl (fun ls hl => ?_)
                refine lv_goto (tgt := 18) hx hb dL_types_183 (by decide) ?_
                have e_9 : (nI (uW2 (tyS vv X k).2.2 (loN (tyX vv k) 7) (loN (iShr (tyX vv k) (nI 3)) 7) j)) = nI (tyS vv X (k + 1)).2.2 := (by show _ = nI (tyI vv k (tyS vv X k)).2.2; first | (rw [tyI_1 (by assumption)]) | (rw [tyI_2 (by assumption), show j = 2 * (2 + loN (iShr (tyX vv k) (nI 8)) 2) from (by omega)]))
                have e_10 : (xAp (xAp (xAp (xAp (xAp (tyS vv X k).1 (tyS vv X k).2.1 40) ((tyS vv X k).2.1 + 1) (lLt (loN (tyX vv k) 7))) ((tyS vv X k).2.1 + 2) (lLt (loN (iShr (tyX vv k) (nI 3)) 7))) ((tyS vv X k).2.1 + 3) 41) ((tyS vv X k).2.1 + 4) (48 + (2 + (loN (iShr (tyX vv k) (nI 8)) 2)))) = (tyS vv X (k + 1)).1 := (by show _ = (tyI vv k (tyS vv X k)).1; first | (rw [tyI_1 (by assumption)]) | (rw [tyI_2 (by assumption)]))
                exact ih18 (k + 1) (by omega) (by omega) _ _ _ rfl e_9 e_10 _ _ hP hD hS _ (lv_sub hl [0, 6, 7, 8, 9] rfl)
              · skip
                refine lv_iload_n hx hb dL_types_155 rfl (lv_at hl 7 rfl) ?_
                refine lv_iload hx hb dL_types_156 (lv_at hl 0 rfl) ?_
                refine n_iconst hx hb 2 dL_types_158 (by decide) ?_
                refine n_irem (a := j) (b := 2) hx hb (by omega) (by decide) (by decide) dL_types_159 ?_
                have J_11 : ∀ y9 : Int32, y9 = (nI (if j % 2 = 0 then loN (tyX vv k) 7 else loN (iShr (tyX vv k) (nI 3)) 7)) → W p l e (headSpec wsL_types (rmD 5 0 0)).room s m args below meth c H locs 0 0 Q0 (F0 m 170 ls (.int y9 :: .int (nI (uW2 (tyS vv X k).2.2 (loN (tyX vv k) 7) (loN (iShr (tyX vv k) (nI 3)) 7) j)) :: [])) := by
                  intro y9 hy9
                  subst hy9
                  refine k_roS (As := [.int (nI (uW2 (tyS vv X k).2.2 (loN (tyX vv k) 7) (loN (iShr (tyX vv k) (nI 3)) 7) j)), .int (nI (if j % 2 = 0 then loN (tyX vv k) 7 else loN (iShr (tyX vv k) (nI 3)) 7))]) (rest := []) (wc := []) (d := 1) (v := nI (uWi (uW2 (tyS vv X k).2.2 (loN (tyX vv k) 7) (loN (iShr (tyX vv k) (nI 3)) 7) j) (if j % 2 = 0 then loN (tyX vv k) 7 else loN (iShr (tyX vv k) (nI 3)) 7))) cx (c_L_with l G T A (uW2 (tyS vv X k).2.2 (loN (tyX vv k) 7) (loN (iShr (tyX vv k) (nI 3)) 7) j) (if j % 2 = 0 then loN (tyX vv k) 7 else loN (iShr (tyX vv k) (nI 3)) 7) (by omega) (by split <;> omega)) (va_cwS 2 hts gL_types_L_with rfl rfl rfl (by decide +kernel) ⟨Nat.le_of_ble_eq_true rfl, Nat.le_of_ble_eq_true rfl⟩) (hP.sub (ws' := []) [] rfl) hK (hE.kept hS.2.1) rfl hl.1 rfl (Nat.le_of_ble_eq_true rfl) dL_types_170 ⟨Nat.le_of_ble_eq_true rfl, Nat.le_of_ble_eq_true rfl⟩ ?_
                  refine lv_istore_n (lv' := [(2, .int (nI (uWi (uW2 (tyS vv X k).2.2 (loN (tyX vv k) 7) (loN (iShr (tyX vv k) (nI 3)) 7) j) (if j % 2 = 0 then loN (tyX vv k) 7 else loN (iShr (tyX vv k) (nI 3)) 7)))), (9, .int (nI j)), (8, .int (nI (2 + (loN (iShr (tyX vv k) (nI 8)) 2)))), (7, .int (nI (loN (iShr (tyX vv k) (nI 3)) 7))), (6, .int (nI (loN (tyX vv k) 7))), (5, .int (tyX vv k)), (4, .int (nI k)), (3, .int (nI (1 + (loN vv 4)))), (0, .ref (w 0)), (1, .int vv)]) hx hb dL_types_173 rfl hl (by decide) rfl (fun ls hl => ?_)
                  refine lv_iinc (v := nI (j + 1)) (lv' := [(9, .int (nI (j + 1))), (2, .int (nI (uWi (uW2 (tyS vv X k).2.2 (loN (tyX vv k) 7) (loN (iShr (tyX vv k) (nI 3)) 7) j) (if j % 2 = 0 then loN (tyX vv k) 7 else loN (iShr (tyX vv k) (nI 3)) 7)))), (8, .int (nI (2 + (loN (iShr (tyX vv k) (nI 8)) 2)))), (7, .int (nI (loN (iShr (tyX vv k) (nI 3)) 7))), (6, .int (nI (loN (tyX vv k) 7))), (5, .int (tyX vv k)), (4, .int (nI k)), (3, .int (nI (1 + (loN vv 4)))), (0, .ref (w 0)), (1, .int vv)]) hx hb dL_types_174 hl (k := 1) rfl (n_inc j 1 rfl) (by decide) rfl (fun ls hl => ?_)
                  refine lv_goto (tgt := 146) hx hb dL_types_177 (by decide) ?_
                  have e_12 : (nI (uWi (uW2 (tyS vv X k).2.2 (loN (tyX vv k) 7) (loN (iShr (tyX vv k) (nI 3)) 7) j) (if j % 2 = 0 then loN (tyX vv k) 7 else loN (iShr (tyX vv k) (nI 3)) 7))) = nI (uW2 (tyS vv X k).2.2 (loN (tyX vv k) 7) (loN (iShr (tyX vv k) (nI 3)) 7) (j + 1)) := rfl
                  exact ih146 (j + 1) (by omega) (by omega) _ _ rfl e_12 _ _ hP hD hS _ (lv_sub hl [0, 2, 3, 4, 5, 6, 7, 1, 8, 9] rfl)
                refine n_if_ne (a := j % 2) (tgt := 168) hx hb (by omega) dL_types_160 (by decide) (fun c_13 => ?_) (fun c_14 => ?_)
                · skip
                  refine lv_iload hx hb dL_types_168 (lv_at hl 2 rfl) ?_
                  exact J_11 _ (by first | rw [if_pos (by omega)] | rw [if_neg (by omega)])
                · skip
                  refine lv_iload hx hb dL_types_163 (lv_at hl 3 rfl) ?_
                  refine lv_goto (tgt := 170) hx hb dL_types_165 (by decide) ?_
                  exact J_11 _ (by first | rw [if_pos (by omega)] | rw [if_neg (by omega)])
          exact L146_i_6 (2 * (2 + loN (iShr (tyX vv k) (nI 8)) 2) + 1) 0 (by omega) (by omega) _ _ rfl rfl _ _ hP hD hS _ (lv_sub hl [0, 1, 2, 3, 4, 5, 6, 7, 8, 9] rfl)
        · skip
          refine lv_aload_n hx hb dL_types_66 rfl (lv_at hl 6 rfl) ?_
          refine lv_iload hx hb dL_types_67 (lv_at hl 1 rfl) ?_
          refine k_roS (As := [.int (nI (loN (tyX vv k) 7))]) (rest := [.ref (w 0)]) (wc := []) (d := 0) (v := nI (lLt (loN (tyX vv k) 7))) cx (c_L_letter l G T A (loN (tyX vv k) 7) (by omega)) (va_cwS 1 hts gL_types_L_letter rfl rfl rfl (by decide +kernel) ⟨Nat.le_of_ble_eq_true rfl, Nat.le_of_ble_eq_true rfl⟩) (hP.sub (ws' := []) [] rfl) hK (hE.kept hS.2.1) rfl hl.1 rfl (Nat.le_of_ble_eq_true rfl) dL_types_69 ⟨Nat.le_of_ble_eq_true rfl, Nat.le_of_ble_eq_true rfl⟩ ?_
          refine k_lwS (As := [.ref (w 0), .int (nI (lLt (loN (tyX vv k) 7)))]) (rest := []) (wc := (oC T (w, q, qz, h, qs, t, gr, u, tr, oc) (Sw, S, Z, Sh, Hs, (tyS vv X k).1, Gg, U, K, O))) (wr := []) (w1 := (oC T (w, q, qz, h, qs, t, gr, u, tr, oc) (Sw, S, Z, Sh, Hs, xAp (tyS vv X k).1 (tyS vv X k).2.1 (lLt (loN (tyX vv k) 7)), Gg, U, K, O))) (d := 3) (mc := 0) (ms := 0) (v := nI ((tyS vv X k).2.1 + 1)) cx (c_L_append l G T H.size w q qz h qs t gr u tr oc Sw S Z Sh Hs (tyS vv X k).1 Gg U K O (tyS vv X k).2.1 (lLt (loN (tyX vv k) 7)) (by first | assumption | rfl | omega) (by omega) (by omega) (by omega) (by omega)) (vx_cwSW 2 hts gL_types_L_append rfl rfl rfl (by decide +kernel) ⟨Nat.le_of_ble_eq_true rfl, Nat.le_of_ble_eq_true rfl⟩) (kN_full hP hD hS hA hE hK) rfl hl.1 rfl (Nat.le_of_ble_eq_true rfl) dL_types_72 ⟨Nat.le_of_ble_eq_true rfl, Nat.le_of_ble_eq_true rfl⟩ (fun H locs hP hD hS hz => ?_)
          have hP : va_P G vwCl (oC T (w, q, qz, h, qs, t, gr, u, tr, oc) (Sw, S, Z, Sh, Hs, xAp (tyS vv X k).1 (tyS vv X k).2.1 (lLt (loN (tyX vv k) 7)), Gg, U, K, O)) H := hP
          have hD : va_D A (oC T (w, q, qz, h, qs, t, gr, u, tr, oc) (Sw, S, Z, Sh, Hs, xAp (tyS vv X k).1 (tyS vv X k).2.1 (lLt (loN (tyX vv k) 7)), Gg, U, K, O)) := hD
          refine lv_pop hx hb dL_types_75 rfl ?_
          refine lv_iload_n hx hb dL_types_76 rfl (lv_at hl 5 rfl) ?_
          refine lv_iload hx hb dL_types_77 (lv_at hl 1 rfl) ?_
          refine k_roS (As := [.int (nI (tyS vv X k).2.2), .int (nI (loN (tyX vv k) 7))]) (rest := []) (wc := []) (d := 1) (v := nI (uWi (tyS vv X k).2.2 (loN (tyX vv k) 7))) cx (c_L_with l G T A (tyS vv X k).2.2 (loN (tyX vv k) 7) (by omega) (by omega)) (va_cwS 2 hts gL_types_L_with rfl rfl rfl (by decide +kernel) ⟨Nat.le_of_ble_eq_true rfl, Nat.le_of_ble_eq_true rfl⟩) (hP.sub (ws' := []) [] rfl) hK (hE.kept hS.2.1) rfl hl.1 rfl (Nat.le_of_ble_eq_true rfl) dL_types_79 ⟨Nat.le_of_ble_eq_true rfl, Nat.le_of_ble_eq_true rfl⟩ ?_
          refine lv_istore_n (lv' := [(2, .int (nI (uWi (tyS vv X k).2.2 (loN (tyX vv k) 7)))), (7, .int (nI (loN (iShr (tyX vv k) (nI 3)) 7))), (6, .int (nI (loN (tyX vv k) 7))), (5, .int (tyX vv k)), (4, .int (nI k)), (3, .int (nI (1 + (loN vv 4)))), (0, .ref (w 0)), (1, .int vv)]) hx hb dL_types_82 rfl hl (by decide) rfl (fun ls hl => ?_)
          refine lv_goto (tgt := 180) hx hb dL_types_83 (by decide) ?_
          refine lv_iinc (v := nI (k + 1)) (lv' := [(4, .int (nI (k + 1))), (2, .int (nI (uWi (tyS vv X k).2.2 (loN (tyX vv k) 7)))), (7, .int (nI (loN (iShr (tyX vv k) (nI 3)) 7))), (6, .int (nI (loN (tyX vv k) 7))), (5, .int (tyX vv k)), (3, .int (nI (1 + (loN vv 4)))), (0, .ref (w 0)), (1, .int vv)]) hx hb dL_types_180 hl (k := 4) rfl (n_inc k 1 rfl) (by decide) rfl (fun ls hl => ?_)
          refine lv_goto (tgt := 18) hx hb dL_types_183 (by decide) ?_
          have e_15 : (nI (uWi (tyS vv X k).2.2 (loN (tyX vv k) 7))) = nI (tyS vv X (k + 1)).2.2 := (by show _ = nI (tyI vv k (tyS vv X k)).2.2; first | (rw [tyI_1 (by assumption)]) | (rw [tyI_2 (by assumption), show j = 2 * (2 + loN (iShr (tyX vv k) (nI 8)) 2) from (by omega)]))
          have e_16 : (xAp (tyS vv X k).1 (tyS vv X k).2.1 (lLt (loN (tyX vv k) 7))) = (tyS vv X (k + 1)).1 := (by show _ = (tyI vv k (tyS vv X k)).1; first | (rw [tyI_1 (by assumption)]) | (rw [tyI_2 (by assumption)]))
          exact ih18 (k + 1) (by omega) (by omega) _ _ _ rfl e_15 e_16 _ _ hP hD hS _ (lv_sub hl [0, 5, 1, 6, 7] rfl)
  exact L18 (1 + loN vv 4 + 1) 0 (by omega) (by omega) _ _ _ rfl rfl rfl _ _ hP hD hS _ (lv_sub hl [0, 1, 2, 3, 4] rfl)
set_option maxHeartbeats 20000000 in
set_option maxRecDepth 100000 in
theorem c_L_told (l : Launch) (G : va_G) (T : Nat → ClassId) (sz : Nat) (w : Nat → Nat) (q : Nat → Nat) (qz : Nat → Nat) (h : Nat → Nat) (qs : Nat → Nat → Nat) (t : Nat → Nat) (gr : Nat → Nat) (u : Nat → Nat) (tr : Nat → Nat) (oc : Nat → Nat) (Sw : Nat → Nat → Int32) (S : Nat → Nat → Int32) (Z : Nat → Nat → Int32) (Sh : Nat → Nat → Int32) (Hs : Nat → Nat → Nat → Int32) (X : Nat → Nat → Int32) (Gg : Nat → Nat → Int32) (U : Nat → Nat → Int32) (K : Nat → Nat → Int32) (O : Nat → Nat → Int32) (tl : Nat → Nat) (n : Nat) (htl : ∀ i : Nat, i < 20 → S 6 i = nI (tl i)) (htl8 : ∀ i : Nat, i < 20 → tl i ≤ 8) (hn : Sh 0 2 = nI n) : RWl l yL_told wsL_told 8 0 0 G T sz (oC T (w, q, qz, h, qs, t, gr, u, tr, oc) (Sw, S, Z, Sh, Hs, X, Gg, U, K, O)) [.ref (w 0)] (tdV S tl n) (oC T (w, q, qz, h, qs, t, gr, u, tr, oc) (Sw, S, Z, Sh, Hs, X, Gg, U, gTr K S tl, O)) := by
  refine Met.ofW (cc := cL_told) (maxL := 4) (ret := (some .long)) (by decide) rfl ?_
  intro p e s m args below meth c s₁ B hml hv
  obtain ⟨ha, hsz, hP, hK, hD0, hE0⟩ := hv
  have hx := B.exec
  have hb := B.bytes
  have hr := B.returns
  have hlocks := B.notSynchronized
  have hts := atoms_spec (ws := wsL_told) B.pre
  have hown : s.vm.findClass RL = some m.cls := findClass_of_methodNamed B.named
  have cx : CallFix p m c cL_told 4 s args wsL_told RL := ⟨hx, hb, hml, hown, hts⟩
  subst hsz
  have hD := hD0.self (sz := s.heap.size)
  generalize hAe : va_A (oC T (w, q, qz, h, qs, t, gr, u, tr, oc) (Sw, S, Z, Sh, Hs, X, Gg, U, K, O)) s.heap.size = A at hD hE0 ⊢
  have hE : gE A s s.heap := hE0
  have hA : ∀ q : Nat, s.heap.size ≤ q → A q := fun q h => by rw [← hAe]; exact Or.inr h
  have hS : va_S A s.heap s.heap [] := va_S.rf
  refine w_entry ha (Nat.le_of_ble_eq_true rfl) (fun ls hl => ?_)
  refine w_q (fun Q0 hQ => ?_)
  have hl : lv_has ls 4 [(0, .ref (w 0))] := hl
  have hP : va_P G vwCl (oC T (w, q, qz, h, qs, t, gr, u, tr, oc) (Sw, S, Z, Sh, Hs, X, Gg, U, K, O)) s.heap := hP
  have hD : va_D A (oC T (w, q, qz, h, qs, t, gr, u, tr, oc) (Sw, S, Z, Sh, Hs, X, Gg, U, K, O)) := hD
  skip
  refine w_h (fun H locs hHe hLe => ?_)
  have hP : va_P G vwCl (oC T (w, q, qz, h, qs, t, gr, u, tr, oc) (Sw, S, Z, Sh, Hs, X, Gg, U, K, O)) H := by rw [hHe]; exact hP
  have hS : va_S A s.heap H locs := by rw [hHe, hLe]; exact hS
  refine lv_ldc2 (v := 239) hx hb hown (hts (.constantLong RL 204 (239)) (by decide +kernel)) dL_told_0 ?_
  refine lv_lstore_n (lv' := [(1, .long (239 : Int64)), (0, .ref (w 0))]) hx hb dL_told_3 rfl hl (by decide) rfl (fun ls hl => ?_)
  refine n_iconst hx hb 0 dL_told_4 (by decide) ?_
  refine lv_istore_n (lv' := [(3, .int (nI 0)), (1, .long (239 : Int64)), (0, .ref (w 0))]) hx hb dL_told_5 rfl hl (by decide) rfl (fun ls hl => ?_)
  refine lv_iload_n hx hb dL_told_6 rfl (lv_at hl 0 rfl) ?_
  refine lv_bipush (v := nI 13) hx hb dL_told_7 (by decide) ?_
  refine n_icmp_ge (a := 0) (b := 13) (tgt := 31) hx hb (by decide) (by decide) dL_told_9 (by decide) (fun h9 => absurd h9 (by decide)) (fun c_1 => ?_)
  refine lv_ldc2 (v := 31) hx hb hown (hts (.constantLong RL 206 (31)) (by decide +kernel)) dL_told_12 ?_
  refine lv_lload_n hx hb dL_told_15 rfl (lv_at hl 1 rfl) ?_
  refine lv_lmul hx hb dL_told_16 ?_
  refine lv_aload_n hx hb dL_told_17 rfl (lv_at hl 2 rfl) ?_
  refine lv_iload_n hx hb dL_told_18 rfl (lv_at hl 0 rfl) ?_
  refine k_lwS (As := [.ref (w 0), .int (nI 0)]) (rest := [.long ((31 : Int64) * (239 : Int64))]) (wc := (oC T (w, q, qz, h, qs, t, gr, u, tr, oc) (Sw, S, Z, Sh, Hs, X, Gg, U, K, O))) (wr := []) (w1 := (oC T (w, q, qz, h, qs, t, gr, u, tr, oc) (Sw, S, Z, Sh, Hs, X, Gg, U, K, O))) (d := 3) (mc := 0) (ms := 0) (v := pCt S n 0) cx (c_L_count l G T H.size w q qz h qs t gr u tr oc Sw S Z Sh Hs X Gg U K O n 0 hn (by omega) (by first | assumption | rfl | omega)) (vx_cwSW 2 hts gL_told_L_count rfl rfl rfl (by decide +kernel) ⟨Nat.le_of_ble_eq_true rfl, Nat.le_of_ble_eq_true rfl⟩) (kN_full hP hD hS hA hE hK) rfl hl.1 rfl (Nat.le_of_ble_eq_true rfl) dL_told_19 ⟨Nat.le_of_ble_eq_true rfl, Nat.le_of_ble_eq_true rfl⟩ (fun H locs hP hD hS hz => ?_)
  have hP : va_P G vwCl (oC T (w, q, qz, h, qs, t, gr, u, tr, oc) (Sw, S, Z, Sh, Hs, X, Gg, U, K, O)) H := hP
  have hD : va_D A (oC T (w, q, qz, h, qs, t, gr, u, tr, oc) (Sw, S, Z, Sh, Hs, X, Gg, U, K, O)) := hD
  refine lv_i2l (v := (pCt S n 0).toInt64) hx hb dL_told_22 rfl ?_
  refine lv_ladd hx hb dL_told_23 ?_
  refine lv_lstore_n (lv' := [(1, .long (((31 : Int64) * (239 : Int64)) + ((pCt S n 0).toInt64))), (3, .int (nI 0)), (0, .ref (w 0))]) hx hb dL_told_24 rfl hl (by decide) rfl (fun ls hl => ?_)
  refine lv_iinc (v := nI 1) (lv' := [(3, .int (nI 1)), (1, .long (((31 : Int64) * (239 : Int64)) + ((pCt S n 0).toInt64))), (0, .ref (w 0))]) hx hb dL_told_25 hl (k := 1) rfl (n_inc 0 1 rfl) (by decide) rfl (fun ls hl => ?_)
  refine lv_goto (tgt := 6) hx hb dL_told_28 (by decide) ?_
  refine lv_iload_n hx hb dL_told_6 rfl (lv_at hl 0 rfl) ?_
  refine lv_bipush (v := nI 13) hx hb dL_told_7 (by decide) ?_
  refine n_icmp_ge (a := 1) (b := 13) (tgt := 31) hx hb (by decide) (by decide) dL_told_9 (by decide) (fun h9 => absurd h9 (by decide)) (fun c_2 => ?_)
  refine lv_ldc2 (v := 31) hx hb hown (hts (.constantLong RL 206 (31)) (by decide +kernel)) dL_told_12 ?_
  refine lv_lload_n hx hb dL_told_15 rfl (lv_at hl 1 rfl) ?_
  refine lv_lmul hx hb dL_told_16 ?_
  refine lv_aload_n hx hb dL_told_17 rfl (lv_at hl 2 rfl) ?_
  refine lv_iload_n hx hb dL_told_18 rfl (lv_at hl 0 rfl) ?_
  refine k_lwS (As := [.ref (w 0), .int (nI 1)]) (rest := [.long ((31 : Int64) * (((31 : Int64) * (239 : Int64)) + ((pCt S n 0).toInt64)))]) (wc := (oC T (w, q, qz, h, qs, t, gr, u, tr, oc) (Sw, S, Z, Sh, Hs, X, Gg, U, K, O))) (wr := []) (w1 := (oC T (w, q, qz, h, qs, t, gr, u, tr, oc) (Sw, S, Z, Sh, Hs, X, Gg, U, K, O))) (d := 3) (mc := 0) (ms := 0) (v := pCt S n 1) cx (c_L_count l G T H.size w q qz h qs t gr u tr oc Sw S Z Sh Hs X Gg U K O n 1 hn (by omega) (by first | assumption | rfl | omega)) (vx_cwSW 2 hts gL_told_L_count rfl rfl rfl (by decide +kernel) ⟨Nat.le_of_ble_eq_true rfl, Nat.le_of_ble_eq_true rfl⟩) (kN_full hP hD hS hA hE hK) rfl hl.1 rfl (Nat.le_of_ble_eq_true rfl) dL_told_19 ⟨Nat.le_of_ble_eq_true rfl, Nat.le_of_ble_eq_true rfl⟩ (fun H locs hP hD hS hz => ?_)
  have hP : va_P G vwCl (oC T (w, q, qz, h, qs, t, gr, u, tr, oc) (Sw, S, Z, Sh, Hs, X, Gg, U, K, O)) H := hP
  have hD : va_D A (oC T (w, q, qz, h, qs, t, gr, u, tr, oc) (Sw, S, Z, Sh, Hs, X, Gg, U, K, O)) := hD
  refine lv_i2l (v := (pCt S n 1).toInt64) hx hb dL_told_22 rfl ?_
  refine lv_ladd hx hb dL_told_23 ?_
  refine lv_lstore_n (lv' := [(1, .long (((31 : Int64) * (((31 : Int64) * (239 : Int64)) + ((pCt S n 0).toInt64))) + ((pCt S n 1).toInt64))), (3, .int (nI 1)), (0, .ref (w 0))]) hx hb dL_told_24 rfl hl (by decide) rfl (fun ls hl => ?_)
  refine lv_iinc (v := nI 2) (lv' := [(3, .int (nI 2)), (1, .long (((31 : Int64) * (((31 : Int64) * (239 : Int64)) + ((pCt S n 0).toInt64))) + ((pCt S n 1).toInt64))), (0, .ref (w 0))]) hx hb dL_told_25 hl (k := 1) rfl (n_inc 1 1 rfl) (by decide) rfl (fun ls hl => ?_)
  refine lv_goto (tgt := 6) hx hb dL_told_28 (by decide) ?_
  refine lv_iload_n hx hb dL_told_6 rfl (lv_at hl 0 rfl) ?_
  refine lv_bipush (v := nI 13) hx hb dL_told_7 (by decide) ?_
  refine n_icmp_ge (a := 2) (b := 13) (tgt := 31) hx hb (by decide) (by decide) dL_told_9 (by decide) (fun h9 => absurd h9 (by decide)) (fun c_3 => ?_)
  refine lv_ldc2 (v := 31) hx hb hown (hts (.constantLong RL 206 (31)) (by decide +kernel)) dL_told_12 ?_
  refine lv_lload_n hx hb dL_told_15 rfl (lv_at hl 1 rfl) ?_
  refine lv_lmul hx hb dL_told_16 ?_
  refine lv_aload_n hx hb dL_told_17 rfl (lv_at hl 2 rfl) ?_
  refine lv_iload_n hx hb dL_told_18 rfl (lv_at hl 0 rfl) ?_
  refine k_lwS (As := [.ref (w 0), .int (nI 2)]) (rest := [.long ((31 : Int64) * (((31 : Int64) * (((31 : Int64) * (239 : Int64)) + ((pCt S n 0).toInt64))) + ((pCt S n 1).toInt64)))]) (wc := (oC T (w, q, qz, h, qs, t, gr, u, tr, oc) (Sw, S, Z, Sh, Hs, X, Gg, U, K, O))) (wr := []) (w1 := (oC T (w, q, qz, h, qs, t, gr, u, tr, oc) (Sw, S, Z, Sh, Hs, X, Gg, U, K, O))) (d := 3) (mc := 0) (ms := 0) (v := pCt S n 2) cx (c_L_count l G T H.size w q qz h qs t gr u tr oc Sw S Z Sh Hs X Gg U K O n 2 hn (by omega) (by first | assumption | rfl | omega)) (vx_cwSW 2 hts gL_told_L_count rfl rfl rfl (by decide +kernel) ⟨Nat.le_of_ble_eq_true rfl, Nat.le_of_ble_eq_true rfl⟩) (kN_full hP hD hS hA hE hK) rfl hl.1 rfl (Nat.le_of_ble_eq_true rfl) dL_told_19 ⟨Nat.le_of_ble_eq_true rfl, Nat.le_of_ble_eq_true rfl⟩ (fun H locs hP hD hS hz => ?_)
  have hP : va_P G vwCl (oC T (w, q, qz, h, qs, t, gr, u, tr, oc) (Sw, S, Z, Sh, Hs, X, Gg, U, K, O)) H := hP
  have hD : va_D A (oC T (w, q, qz, h, qs, t, gr, u, tr, oc) (Sw, S, Z, Sh, Hs, X, Gg, U, K, O)) := hD
  refine lv_i2l (v := (pCt S n 2).toInt64) hx hb dL_told_22 rfl ?_
  refine lv_ladd hx hb dL_told_23 ?_
  refine lv_lstore_n (lv' := [(1, .long (((31 : Int64) * (((31 : Int64) * (((31 : Int64) * (239 : Int64)) + ((pCt S n 0).toInt64))) + ((pCt S n 1).toInt64))) + ((pCt S n 2).toInt64))), (3, .int (nI 2)), (0, .ref (w 0))]) hx hb dL_told_24 rfl hl (by decide) rfl (fun ls hl => ?_)
  refine lv_iinc (v := nI 3) (lv' := [(3, .int (nI 3)), (1, .long (((31 : Int64) * (((31 : Int64) * (((31 : Int64) * (239 : Int64)) + ((pCt S n 0).toInt64))) + ((pCt S n 1).toInt64))) + ((pCt S n 2).toInt64))), (0, .ref (w 0))]) hx hb dL_told_25 hl (k := 1) rfl (n_inc 2 1 rfl) (by decide) rfl (fun ls hl => ?_)
  refine lv_goto (tgt := 6) hx hb dL_told_28 (by decide) ?_
  refine lv_iload_n hx hb dL_told_6 rfl (lv_at hl 0 rfl) ?_
  refine lv_bipush (v := nI 13) hx hb dL_told_7 (by decide) ?_
  refine n_icmp_ge (a := 3) (b := 13) (tgt := 31) hx hb (by decide) (by decide) dL_told_9 (by decide) (fun h9 => absurd h9 (by decide)) (fun c_4 => ?_)
  refine lv_ldc2 (v := 31) hx hb hown (hts (.constantLong RL 206 (31)) (by decide +kernel)) dL_told_12 ?_
  refine lv_lload_n hx hb dL_told_15 rfl (lv_at hl 1 rfl) ?_
  refine lv_lmul hx hb dL_told_16 ?_
  refine lv_aload_n hx hb dL_told_17 rfl (lv_at hl 2 rfl) ?_
  refine lv_iload_n hx hb dL_told_18 rfl (lv_at hl 0 rfl) ?_
  refine k_lwS (As := [.ref (w 0), .int (nI 3)]) (rest := [.long ((31 : Int64) * (((31 : Int64) * (((31 : Int64) * (((31 : Int64) * (239 : Int64)) + ((pCt S n 0).toInt64))) + ((pCt S n 1).toInt64))) + ((pCt S n 2).toInt64)))]) (wc := (oC T (w, q, qz, h, qs, t, gr, u, tr, oc) (Sw, S, Z, Sh, Hs, X, Gg, U, K, O))) (wr := []) (w1 := (oC T (w, q, qz, h, qs, t, gr, u, tr, oc) (Sw, S, Z, Sh, Hs, X, Gg, U, gTr K S tl, O))) (d := 6) (mc := 0) (ms := 0) (v := nI (tG S tl 20).2.2) cx (c_L_count_3 l G T H.size w q qz h qs t gr u tr oc Sw S Z Sh Hs X Gg U K O tl htl htl8) (vx_cwSW 2 hts gL_told_L_count rfl rfl rfl (by decide +kernel) ⟨Nat.le_of_ble_eq_true rfl, Nat.le_of_ble_eq_true rfl⟩) (kN_full hP hD hS hA hE hK) rfl hl.1 rfl (Nat.le_of_ble_eq_true rfl) dL_told_19 ⟨Nat.le_of_ble_eq_true rfl, Nat.le_of_ble_eq_true rfl⟩ (fun H locs hP hD hS hz => ?_)
  have hP : va_P G vwCl (oC T (w, q, qz, h, qs, t, gr, u, tr, oc) (Sw, S, Z, Sh, Hs, X, Gg, U, gTr K S tl, O)) H := hP
  have hD : va_D A (oC T (w, q, qz, h, qs, t, gr, u, tr, oc) (Sw, S, Z, Sh, Hs, X, Gg, U, gTr K S tl, O)) := hD
  refine lv_i2l (v := (nI (tG S tl 20).2.2).toInt64) hx hb dL_told_22 rfl ?_
  refine lv_ladd hx hb dL_told_23 ?_
  refine lv_lstore_n (lv' := [(1, .long (((31 : Int64) * (((31 : Int64) * (((31 : Int64) * (((31 : Int64) * (239 : Int64)) + ((pCt S n 0).toInt64))) + ((pCt S n 1).toInt64))) + ((pCt S n 2).toInt64))) + ((nI (tG S tl 20).2.2).toInt64))), (3, .int (nI 3)), (0, .ref (w 0))]) hx hb dL_told_24 rfl hl (by decide) rfl (fun ls hl => ?_)
  refine lv_iinc (v := nI 4) (lv' := [(3, .int (nI 4)), (1, .long (((31 : Int64) * (((31 : Int64) * (((31 : Int64) * (((31 : Int64) * (239 : Int64)) + ((pCt S n 0).toInt64))) + ((pCt S n 1).toInt64))) + ((pCt S n 2).toInt64))) + ((nI (tG S tl 20).2.2).toInt64))), (0, .ref (w 0))]) hx hb dL_told_25 hl (k := 1) rfl (n_inc 3 1 rfl) (by decide) rfl (fun ls hl => ?_)
  refine lv_goto (tgt := 6) hx hb dL_told_28 (by decide) ?_
  refine lv_iload_n hx hb dL_told_6 rfl (lv_at hl 0 rfl) ?_
  refine lv_bipush (v := nI 13) hx hb dL_told_7 (by decide) ?_
  refine n_icmp_ge (a := 4) (b := 13) (tgt := 31) hx hb (by decide) (by decide) dL_told_9 (by decide) (fun h9 => absurd h9 (by decide)) (fun c_5 => ?_)
  refine lv_ldc2 (v := 31) hx hb hown (hts (.constantLong RL 206 (31)) (by decide +kernel)) dL_told_12 ?_
  refine lv_lload_n hx hb dL_told_15 rfl (lv_at hl 1 rfl) ?_
  refine lv_lmul hx hb dL_told_16 ?_
  refine lv_aload_n hx hb dL_told_17 rfl (lv_at hl 2 rfl) ?_
  refine lv_iload_n hx hb dL_told_18 rfl (lv_at hl 0 rfl) ?_
  refine k_lwS (As := [.ref (w 0), .int (nI 4)]) (rest := [.long ((31 : Int64) * (((31 : Int64) * (((31 : Int64) * (((31 : Int64) * (((31 : Int64) * (239 : Int64)) + ((pCt S n 0).toInt64))) + ((pCt S n 1).toInt64))) + ((pCt S n 2).toInt64))) + ((nI (tG S tl 20).2.2).toInt64)))]) (wc := (oC T (w, q, qz, h, qs, t, gr, u, tr, oc) (Sw, S, Z, Sh, Hs, X, Gg, U, gTr K S tl, O))) (wr := []) (w1 := (oC T (w, q, qz, h, qs, t, gr, u, tr, oc) (Sw, S, Z, Sh, Hs, X, Gg, U, gTr K S tl, O))) (d := 3) (mc := 0) (ms := 0) (v := pCt S n 4) cx (c_L_count l G T H.size w q qz h qs t gr u tr oc Sw S Z Sh Hs X Gg U (gTr K S tl) O n 4 hn (by omega) (by first | assumption | rfl | omega)) (vx_cwSW 2 hts gL_told_L_count rfl rfl rfl (by decide +kernel) ⟨Nat.le_of_ble_eq_true rfl, Nat.le_of_ble_eq_true rfl⟩) (kN_full hP hD hS hA hE hK) rfl hl.1 rfl (Nat.le_of_ble_eq_true rfl) dL_told_19 ⟨Nat.le_of_ble_eq_true rfl, Nat.le_of_ble_eq_true rfl⟩ (fun H locs hP hD hS hz => ?_)
  have hP : va_P G vwCl (oC T (w, q, qz, h, qs, t, gr, u, tr, oc) (Sw, S, Z, Sh, Hs, X, Gg, U, gTr K S tl, O)) H := hP
  have hD : va_D A (oC T (w, q, qz, h, qs, t, gr, u, tr, oc) (Sw, S, Z, Sh, Hs, X, Gg, U, gTr K S tl, O)) := hD
  refine lv_i2l (v := (pCt S n 4).toInt64) hx hb dL_told_22 rfl ?_
  refine lv_ladd hx hb dL_told_23 ?_
  refine lv_lstore_n (lv' := [(1, .long (((31 : Int64) * (((31 : Int64) * (((31 : Int64) * (((31 : Int64) * (((31 : Int64) * (239 : Int64)) + ((pCt S n 0).toInt64))) + ((pCt S n 1).toInt64))) + ((pCt S n 2).toInt64))) + ((nI (tG S tl 20).2.2).toInt64))) + ((pCt S n 4).toInt64))), (3, .int (nI 4)), (0, .ref (w 0))]) hx hb dL_told_24 rfl hl (by decide) rfl (fun ls hl => ?_)
  refine lv_iinc (v := nI 5) (lv' := [(3, .int (nI 5)), (1, .long (((31 : Int64) * (((31 : Int64) * (((31 : Int64) * (((31 : Int64) * (((31 : Int64) * (239 : Int64)) + ((pCt S n 0).toInt64))) + ((pCt S n 1).toInt64))) + ((pCt S n 2).toInt64))) + ((nI (tG S tl 20).2.2).toInt64))) + ((pCt S n 4).toInt64))), (0, .ref (w 0))]) hx hb dL_told_25 hl (k := 1) rfl (n_inc 4 1 rfl) (by decide) rfl (fun ls hl => ?_)
  refine lv_goto (tgt := 6) hx hb dL_told_28 (by decide) ?_
  refine lv_iload_n hx hb dL_told_6 rfl (lv_at hl 0 rfl) ?_
  refine lv_bipush (v := nI 13) hx hb dL_told_7 (by decide) ?_
  refine n_icmp_ge (a := 5) (b := 13) (tgt := 31) hx hb (by decide) (by decide) dL_told_9 (by decide) (fun h9 => absurd h9 (by decide)) (fun c_6 => ?_)
  refine lv_ldc2 (v := 31) hx hb hown (hts (.constantLong RL 206 (31)) (by decide +kernel)) dL_told_12 ?_
  refine lv_lload_n hx hb dL_told_15 rfl (lv_at hl 1 rfl) ?_
  refine lv_lmul hx hb dL_told_16 ?_
  refine lv_aload_n hx hb dL_told_17 rfl (lv_at hl 2 rfl) ?_
  refine lv_iload_n hx hb dL_told_18 rfl (lv_at hl 0 rfl) ?_
  refine k_lwS (As := [.ref (w 0), .int (nI 5)]) (rest := [.long ((31 : Int64) * (((31 : Int64) * (((31 : Int64) * (((31 : Int64) * (((31 : Int64) * (((31 : Int64) * (239 : Int64)) + ((pCt S n 0).toInt64))) + ((pCt S n 1).toInt64))) + ((pCt S n 2).toInt64))) + ((nI (tG S tl 20).2.2).toInt64))) + ((pCt S n 4).toInt64)))]) (wc := (oC T (w, q, qz, h, qs, t, gr, u, tr, oc) (Sw, S, Z, Sh, Hs, X, Gg, U, gTr K S tl, O))) (wr := []) (w1 := (oC T (w, q, qz, h, qs, t, gr, u, tr, oc) (Sw, S, Z, Sh, Hs, X, Gg, U, gTr K S tl, O))) (d := 3) (mc := 0) (ms := 0) (v := pCt S n 5) cx (c_L_count l G T H.size w q qz h qs t gr u tr oc Sw S Z Sh Hs X Gg U (gTr K S tl) O n 5 hn (by omega) (by first | assumption | rfl | omega)) (vx_cwSW 2 hts gL_told_L_count rfl rfl rfl (by decide +kernel) ⟨Nat.le_of_ble_eq_true rfl, Nat.le_of_ble_eq_true rfl⟩) (kN_full hP hD hS hA hE hK) rfl hl.1 rfl (Nat.le_of_ble_eq_true rfl) dL_told_19 ⟨Nat.le_of_ble_eq_true rfl, Nat.le_of_ble_eq_true rfl⟩ (fun H locs hP hD hS hz => ?_)
  have hP : va_P G vwCl (oC T (w, q, qz, h, qs, t, gr, u, tr, oc) (Sw, S, Z, Sh, Hs, X, Gg, U, gTr K S tl, O)) H := hP
  have hD : va_D A (oC T (w, q, qz, h, qs, t, gr, u, tr, oc) (Sw, S, Z, Sh, Hs, X, Gg, U, gTr K S tl, O)) := hD
  refine lv_i2l (v := (pCt S n 5).toInt64) hx hb dL_told_22 rfl ?_
  refine lv_ladd hx hb dL_told_23 ?_
  refine lv_lstore_n (lv' := [(1, .long (((31 : Int64) * (((31 : Int64) * (((31 : Int64) * (((31 : Int64) * (((31 : Int64) * (((31 : Int64) * (239 : Int64)) + ((pCt S n 0).toInt64))) + ((pCt S n 1).toInt64))) + ((pCt S n 2).toInt64))) + ((nI (tG S tl 20).2.2).toInt64))) + ((pCt S n 4).toInt64))) + ((pCt S n 5).toInt64))), (3, .int (nI 5)), (0, .ref (w 0))]) hx hb dL_told_24 rfl hl (by decide) rfl (fun ls hl => ?_)
  refine lv_iinc (v := nI 6) (lv' := [(3, .int (nI 6)), (1, .long (((31 : Int64) * (((31 : Int64) * (((31 : Int64) * (((31 : Int64) * (((31 : Int64) * (((31 : Int64) * (239 : Int64)) + ((pCt S n 0).toInt64))) + ((pCt S n 1).toInt64))) + ((pCt S n 2).toInt64))) + ((nI (tG S tl 20).2.2).toInt64))) + ((pCt S n 4).toInt64))) + ((pCt S n 5).toInt64))), (0, .ref (w 0))]) hx hb dL_told_25 hl (k := 1) rfl (n_inc 5 1 rfl) (by decide) rfl (fun ls hl => ?_)
  refine lv_goto (tgt := 6) hx hb dL_told_28 (by decide) ?_
  refine lv_iload_n hx hb dL_told_6 rfl (lv_at hl 0 rfl) ?_
  refine lv_bipush (v := nI 13) hx hb dL_told_7 (by decide) ?_
  refine n_icmp_ge (a := 6) (b := 13) (tgt := 31) hx hb (by decide) (by decide) dL_told_9 (by decide) (fun h9 => absurd h9 (by decide)) (fun c_7 => ?_)
  refine lv_ldc2 (v := 31) hx hb hown (hts (.constantLong RL 206 (31)) (by decide +kernel)) dL_told_12 ?_
  refine lv_lload_n hx hb dL_told_15 rfl (lv_at hl 1 rfl) ?_
  refine lv_lmul hx hb dL_told_16 ?_
  refine lv_aload_n hx hb dL_told_17 rfl (lv_at hl 2 rfl) ?_
  refine lv_iload_n hx hb dL_told_18 rfl (lv_at hl 0 rfl) ?_
  refine k_lwS (As := [.ref (w 0), .int (nI 6)]) (rest := [.long ((31 : Int64) * (((31 : Int64) * (((31 : Int64) * (((31 : Int64) * (((31 : Int64) * (((31 : Int64) * (((31 : Int64) * (239 : Int64)) + ((pCt S n 0).toInt64))) + ((pCt S n 1).toInt64))) + ((pCt S n 2).toInt64))) + ((nI (tG S tl 20).2.2).toInt64))) + ((pCt S n 4).toInt64))) + ((pCt S n 5).toInt64)))]) (wc := (oC T (w, q, qz, h, qs, t, gr, u, tr, oc) (Sw, S, Z, Sh, Hs, X, Gg, U, gTr K S tl, O))) (wr := []) (w1 := (oC T (w, q, qz, h, qs, t, gr, u, tr, oc) (Sw, S, Z, Sh, Hs, X, Gg, U, gTr K S tl, O))) (d := 3) (mc := 0) (ms := 0) (v := pCt S n 6) cx (c_L_count l G T H.size w q qz h qs t gr u tr oc Sw S Z Sh Hs X Gg U (gTr K S tl) O n 6 hn (by omega) (by first | assumption | rfl | omega)) (vx_cwSW 2 hts gL_told_L_count rfl rfl rfl (by decide +kernel) ⟨Nat.le_of_ble_eq_true rfl, Nat.le_of_ble_eq_true rfl⟩) (kN_full hP hD hS hA hE hK) rfl hl.1 rfl (Nat.le_of_ble_eq_true rfl) dL_told_19 ⟨Nat.le_of_ble_eq_true rfl, Nat.le_of_ble_eq_true rfl⟩ (fun H locs hP hD hS hz => ?_)
  have hP : va_P G vwCl (oC T (w, q, qz, h, qs, t, gr, u, tr, oc) (Sw, S, Z, Sh, Hs, X, Gg, U, gTr K S tl, O)) H := hP
  have hD : va_D A (oC T (w, q, qz, h, qs, t, gr, u, tr, oc) (Sw, S, Z, Sh, Hs, X, Gg, U, gTr K S tl, O)) := hD
  refine lv_i2l (v := (pCt S n 6).toInt64) hx hb dL_told_22 rfl ?_
  refine lv_ladd hx hb dL_told_23 ?_
  refine lv_lstore_n (lv' := [(1, .long (((31 : Int64) * (((31 : Int64) * (((31 : Int64) * (((31 : Int64) * (((31 : Int64) * (((31 : Int64) * (((31 : Int64) * (239 : Int64)) + ((pCt S n 0).toInt64))) + ((pCt S n 1).toInt64))) + ((pCt S n 2).toInt64))) + ((nI (tG S tl 20).2.2).toInt64))) + ((pCt S n 4).toInt64))) + ((pCt S n 5).toInt64))) + ((pCt S n 6).toInt64))), (3, .int (nI 6)), (0, .ref (w 0))]) hx hb dL_told_24 rfl hl (by decide) rfl (fun ls hl => ?_)
  refine lv_iinc (v := nI 7) (lv' := [(3, .int (nI 7)), (1, .long (((31 : Int64) * (((31 : Int64) * (((31 : Int64) * (((31 : Int64) * (((31 : Int64) * (((31 : Int64) * (((31 : Int64) * (239 : Int64)) + ((pCt S n 0).toInt64))) + ((pCt S n 1).toInt64))) + ((pCt S n 2).toInt64))) + ((nI (tG S tl 20).2.2).toInt64))) + ((pCt S n 4).toInt64))) + ((pCt S n 5).toInt64))) + ((pCt S n 6).toInt64))), (0, .ref (w 0))]) hx hb dL_told_25 hl (k := 1) rfl (n_inc 6 1 rfl) (by decide) rfl (fun ls hl => ?_)
  refine lv_goto (tgt := 6) hx hb dL_told_28 (by decide) ?_
  refine lv_iload_n hx hb dL_told_6 rfl (lv_at hl 0 rfl) ?_
  refine lv_bipush (v := nI 13) hx hb dL_told_7 (by decide) ?_
  refine n_icmp_ge (a := 7) (b := 13) (tgt := 31) hx hb (by decide) (by decide) dL_told_9 (by decide) (fun h9 => absurd h9 (by decide)) (fun c_8 => ?_)
  refine lv_ldc2 (v := 31) hx hb hown (hts (.constantLong RL 206 (31)) (by decide +kernel)) dL_told_12 ?_
  refine lv_lload_n hx hb dL_told_15 rfl (lv_at hl 1 rfl) ?_
  refine lv_lmul hx hb dL_told_16 ?_
  refine lv_aload_n hx hb dL_told_17 rfl (lv_at hl 2 rfl) ?_
  refine lv_iload_n hx hb dL_told_18 rfl (lv_at hl 0 rfl) ?_
  refine k_lwS (As := [.ref (w 0), .int (nI 7)]) (rest := [.long ((31 : Int64) * (((31 : Int64) * (((31 : Int64) * (((31 : Int64) * (((31 : Int64) * (((31 : Int64) * (((31 : Int64) * (((31 : Int64) * (239 : Int64)) + ((pCt S n 0).toInt64))) + ((pCt S n 1).toInt64))) + ((pCt S n 2).toInt64))) + ((nI (tG S tl 20).2.2).toInt64))) + ((pCt S n 4).toInt64))) + ((pCt S n 5).toInt64))) + ((pCt S n 6).toInt64)))]) (wc := (oC T (w, q, qz, h, qs, t, gr, u, tr, oc) (Sw, S, Z, Sh, Hs, X, Gg, U, gTr K S tl, O))) (wr := []) (w1 := (oC T (w, q, qz, h, qs, t, gr, u, tr, oc) (Sw, S, Z, Sh, Hs, X, Gg, U, gTr K S tl, O))) (d := 3) (mc := 0) (ms := 0) (v := pCt S n 7) cx (c_L_count l G T H.size w q qz h qs t gr u tr oc Sw S Z Sh Hs X Gg U (gTr K S tl) O n 7 hn (by omega) (by first | assumption | rfl | omega)) (vx_cwSW 2 hts gL_told_L_count rfl rfl rfl (by decide +kernel) ⟨Nat.le_of_ble_eq_true rfl, Nat.le_of_ble_eq_true rfl⟩) (kN_full hP hD hS hA hE hK) rfl hl.1 rfl (Nat.le_of_ble_eq_true rfl) dL_told_19 ⟨Nat.le_of_ble_eq_true rfl, Nat.le_of_ble_eq_true rfl⟩ (fun H locs hP hD hS hz => ?_)
  have hP : va_P G vwCl (oC T (w, q, qz, h, qs, t, gr, u, tr, oc) (Sw, S, Z, Sh, Hs, X, Gg, U, gTr K S tl, O)) H := hP
  have hD : va_D A (oC T (w, q, qz, h, qs, t, gr, u, tr, oc) (Sw, S, Z, Sh, Hs, X, Gg, U, gTr K S tl, O)) := hD
  refine lv_i2l (v := (pCt S n 7).toInt64) hx hb dL_told_22 rfl ?_
  refine lv_ladd hx hb dL_told_23 ?_
  refine lv_lstore_n (lv' := [(1, .long (((31 : Int64) * (((31 : Int64) * (((31 : Int64) * (((31 : Int64) * (((31 : Int64) * (((31 : Int64) * (((31 : Int64) * (((31 : Int64) * (239 : Int64)) + ((pCt S n 0).toInt64))) + ((pCt S n 1).toInt64))) + ((pCt S n 2).toInt64))) + ((nI (tG S tl 20).2.2).toInt64))) + ((pCt S n 4).toInt64))) + ((pCt S n 5).toInt64))) + ((pCt S n 6).toInt64))) + ((pCt S n 7).toInt64))), (3, .int (nI 7)), (0, .ref (w 0))]) hx hb dL_told_24 rfl hl (by decide) rfl (fun ls hl => ?_)
  refine lv_iinc (v := nI 8) (lv' := [(3, .int (nI 8)), (1, .long (((31 : Int64) * (((31 : Int64) * (((31 : Int64) * (((31 : Int64) * (((31 : Int64) * (((31 : Int64) * (((31 : Int64) * (((31 : Int64) * (239 : Int64)) + ((pCt S n 0).toInt64))) + ((pCt S n 1).toInt64))) + ((pCt S n 2).toInt64))) + ((nI (tG S tl 20).2.2).toInt64))) + ((pCt S n 4).toInt64))) + ((pCt S n 5).toInt64))) + ((pCt S n 6).toInt64))) + ((pCt S n 7).toInt64))), (0, .ref (w 0))]) hx hb dL_told_25 hl (k := 1) rfl (n_inc 7 1 rfl) (by decide) rfl (fun ls hl => ?_)
  refine lv_goto (tgt := 6) hx hb dL_told_28 (by decide) ?_
  refine lv_iload_n hx hb dL_told_6 rfl (lv_at hl 0 rfl) ?_
  refine lv_bipush (v := nI 13) hx hb dL_told_7 (by decide) ?_
  refine n_icmp_ge (a := 8) (b := 13) (tgt := 31) hx hb (by decide) (by decide) dL_told_9 (by decide) (fun h9 => absurd h9 (by decide)) (fun c_9 => ?_)
  refine lv_ldc2 (v := 31) hx hb hown (hts (.constantLong RL 206 (31)) (by decide +kernel)) dL_told_12 ?_
  refine lv_lload_n hx hb dL_told_15 rfl (lv_at hl 1 rfl) ?_
  refine lv_lmul hx hb dL_told_16 ?_
  refine lv_aload_n hx hb dL_told_17 rfl (lv_at hl 2 rfl) ?_
  refine lv_iload_n hx hb dL_told_18 rfl (lv_at hl 0 rfl) ?_
  refine k_lwS (As := [.ref (w 0), .int (nI 8)]) (rest := [.long ((31 : Int64) * (((31 : Int64) * (((31 : Int64) * (((31 : Int64) * (((31 : Int64) * (((31 : Int64) * (((31 : Int64) * (((31 : Int64) * (((31 : Int64) * (239 : Int64)) + ((pCt S n 0).toInt64))) + ((pCt S n 1).toInt64))) + ((pCt S n 2).toInt64))) + ((nI (tG S tl 20).2.2).toInt64))) + ((pCt S n 4).toInt64))) + ((pCt S n 5).toInt64))) + ((pCt S n 6).toInt64))) + ((pCt S n 7).toInt64)))]) (wc := (oC T (w, q, qz, h, qs, t, gr, u, tr, oc) (Sw, S, Z, Sh, Hs, X, Gg, U, gTr K S tl, O))) (wr := []) (w1 := (oC T (w, q, qz, h, qs, t, gr, u, tr, oc) (Sw, S, Z, Sh, Hs, X, Gg, U, gTr K S tl, O))) (d := 3) (mc := 0) (ms := 0) (v := pCt S n 8) cx (c_L_count l G T H.size w q qz h qs t gr u tr oc Sw S Z Sh Hs X Gg U (gTr K S tl) O n 8 hn (by omega) (by first | assumption | rfl | omega)) (vx_cwSW 2 hts gL_told_L_count rfl rfl rfl (by decide +kernel) ⟨Nat.le_of_ble_eq_true rfl, Nat.le_of_ble_eq_true rfl⟩) (kN_full hP hD hS hA hE hK) rfl hl.1 rfl (Nat.le_of_ble_eq_true rfl) dL_told_19 ⟨Nat.le_of_ble_eq_true rfl, Nat.le_of_ble_eq_true rfl⟩ (fun H locs hP hD hS hz => ?_)
  have hP : va_P G vwCl (oC T (w, q, qz, h, qs, t, gr, u, tr, oc) (Sw, S, Z, Sh, Hs, X, Gg, U, gTr K S tl, O)) H := hP
  have hD : va_D A (oC T (w, q, qz, h, qs, t, gr, u, tr, oc) (Sw, S, Z, Sh, Hs, X, Gg, U, gTr K S tl, O)) := hD
  refine lv_i2l (v := (pCt S n 8).toInt64) hx hb dL_told_22 rfl ?_
  refine lv_ladd hx hb dL_told_23 ?_
  refine lv_lstore_n (lv' := [(1, .long (((31 : Int64) * (((31 : Int64) * (((31 : Int64) * (((31 : Int64) * (((31 : Int64) * (((31 : Int64) * (((31 : Int64) * (((31 : Int64) * (((31 : Int64) * (239 : Int64)) + ((pCt S n 0).toInt64))) + ((pCt S n 1).toInt64))) + ((pCt S n 2).toInt64))) + ((nI (tG S tl 20).2.2).toInt64))) + ((pCt S n 4).toInt64))) + ((pCt S n 5).toInt64))) + ((pCt S n 6).toInt64))) + ((pCt S n 7).toInt64))) + ((pCt S n 8).toInt64))), (3, .int (nI 8)), (0, .ref (w 0))]) hx hb dL_told_24 rfl hl (by decide) rfl (fun ls hl => ?_)
  refine lv_iinc (v := nI 9) (lv' := [(3, .int (nI 9)), (1, .long (((31 : Int64) * (((31 : Int64) * (((31 : Int64) * (((31 : Int64) * (((31 : Int64) * (((31 : Int64) * (((31 : Int64) * (((31 : Int64) * (((31 : Int64) * (239 : Int64)) + ((pCt S n 0).toInt64))) + ((pCt S n 1).toInt64))) + ((pCt S n 2).toInt64))) + ((nI (tG S tl 20).2.2).toInt64))) + ((pCt S n 4).toInt64))) + ((pCt S n 5).toInt64))) + ((pCt S n 6).toInt64))) + ((pCt S n 7).toInt64))) + ((pCt S n 8).toInt64))), (0, .ref (w 0))]) hx hb dL_told_25 hl (k := 1) rfl (n_inc 8 1 rfl) (by decide) rfl (fun ls hl => ?_)
  refine lv_goto (tgt := 6) hx hb dL_told_28 (by decide) ?_
  refine lv_iload_n hx hb dL_told_6 rfl (lv_at hl 0 rfl) ?_
  refine lv_bipush (v := nI 13) hx hb dL_told_7 (by decide) ?_
  refine n_icmp_ge (a := 9) (b := 13) (tgt := 31) hx hb (by decide) (by decide) dL_told_9 (by decide) (fun h9 => absurd h9 (by decide)) (fun c_10 => ?_)
  refine lv_ldc2 (v := 31) hx hb hown (hts (.constantLong RL 206 (31)) (by decide +kernel)) dL_told_12 ?_
  refine lv_lload_n hx hb dL_told_15 rfl (lv_at hl 1 rfl) ?_
  refine lv_lmul hx hb dL_told_16 ?_
  refine lv_aload_n hx hb dL_told_17 rfl (lv_at hl 2 rfl) ?_
  refine lv_iload_n hx hb dL_told_18 rfl (lv_at hl 0 rfl) ?_
  refine k_lwS (As := [.ref (w 0), .int (nI 9)]) (rest := [.long ((31 : Int64) * (((31 : Int64) * (((31 : Int64) * (((31 : Int64) * (((31 : Int64) * (((31 : Int64) * (((31 : Int64) * (((31 : Int64) * (((31 : Int64) * (((31 : Int64) * (239 : Int64)) + ((pCt S n 0).toInt64))) + ((pCt S n 1).toInt64))) + ((pCt S n 2).toInt64))) + ((nI (tG S tl 20).2.2).toInt64))) + ((pCt S n 4).toInt64))) + ((pCt S n 5).toInt64))) + ((pCt S n 6).toInt64))) + ((pCt S n 7).toInt64))) + ((pCt S n 8).toInt64)))]) (wc := (oC T (w, q, qz, h, qs, t, gr, u, tr, oc) (Sw, S, Z, Sh, Hs, X, Gg, U, gTr K S tl, O))) (wr := []) (w1 := (oC T (w, q, qz, h, qs, t, gr, u, tr, oc) (Sw, S, Z, Sh, Hs, X, Gg, U, gTr K S tl, O))) (d := 3) (mc := 0) (ms := 0) (v := pCt S n 9) cx (c_L_count l G T H.size w q qz h qs t gr u tr oc Sw S Z Sh Hs X Gg U (gTr K S tl) O n 9 hn (by omega) (by first | assumption | rfl | omega)) (vx_cwSW 2 hts gL_told_L_count rfl rfl rfl (by decide +kernel) ⟨Nat.le_of_ble_eq_true rfl, Nat.le_of_ble_eq_true rfl⟩) (kN_full hP hD hS hA hE hK) rfl hl.1 rfl (Nat.le_of_ble_eq_true rfl) dL_told_19 ⟨Nat.le_of_ble_eq_true rfl, Nat.le_of_ble_eq_true rfl⟩ (fun H locs hP hD hS hz => ?_)
  have hP : va_P G vwCl (oC T (w, q, qz, h, qs, t, gr, u, tr, oc) (Sw, S, Z, Sh, Hs, X, Gg, U, gTr K S tl, O)) H := hP
  have hD : va_D A (oC T (w, q, qz, h, qs, t, gr, u, tr, oc) (Sw, S, Z, Sh, Hs, X, Gg, U, gTr K S tl, O)) := hD
  refine lv_i2l (v := (pCt S n 9).toInt64) hx hb dL_told_22 rfl ?_
  refine lv_ladd hx hb dL_told_23 ?_
  refine lv_lstore_n (lv' := [(1, .long (((31 : Int64) * (((31 : Int64) * (((31 : Int64) * (((31 : Int64) * (((31 : Int64) * (((31 : Int64) * (((31 : Int64) * (((31 : Int64) * (((31 : Int64) * (((31 : Int64) * (239 : Int64)) + ((pCt S n 0).toInt64))) + ((pCt S n 1).toInt64))) + ((pCt S n 2).toInt64))) + ((nI (tG S tl 20).2.2).toInt64))) + ((pCt S n 4).toInt64))) + ((pCt S n 5).toInt64))) + ((pCt S n 6).toInt64))) + ((pCt S n 7).toInt64))) + ((pCt S n 8).toInt64))) + ((pCt S n 9).toInt64))), (3, .int (nI 9)), (0, .ref (w 0))]) hx hb dL_told_24 rfl hl (by decide) rfl (fun ls hl => ?_)
  refine lv_iinc (v := nI 10) (lv' := [(3, .int (nI 10)), (1, .long (((31 : Int64) * (((31 : Int64) * (((31 : Int64) * (((31 : Int64) * (((31 : Int64) * (((31 : Int64) * (((31 : Int64) * (((31 : Int64) * (((31 : Int64) * (((31 : Int64) * (239 : Int64)) + ((pCt S n 0).toInt64))) + ((pCt S n 1).toInt64))) + ((pCt S n 2).toInt64))) + ((nI (tG S tl 20).2.2).toInt64))) + ((pCt S n 4).toInt64))) + ((pCt S n 5).toInt64))) + ((pCt S n 6).toInt64))) + ((pCt S n 7).toInt64))) + ((pCt S n 8).toInt64))) + ((pCt S n 9).toInt64))), (0, .ref (w 0))]) hx hb dL_told_25 hl (k := 1) rfl (n_inc 9 1 rfl) (by decide) rfl (fun ls hl => ?_)
  refine lv_goto (tgt := 6) hx hb dL_told_28 (by decide) ?_
  refine lv_iload_n hx hb dL_told_6 rfl (lv_at hl 0 rfl) ?_
  refine lv_bipush (v := nI 13) hx hb dL_told_7 (by decide) ?_
  refine n_icmp_ge (a := 10) (b := 13) (tgt := 31) hx hb (by decide) (by decide) dL_told_9 (by decide) (fun h9 => absurd h9 (by decide)) (fun c_11 => ?_)
  refine lv_ldc2 (v := 31) hx hb hown (hts (.constantLong RL 206 (31)) (by decide +kernel)) dL_told_12 ?_
  refine lv_lload_n hx hb dL_told_15 rfl (lv_at hl 1 rfl) ?_
  refine lv_lmul hx hb dL_told_16 ?_
  refine lv_aload_n hx hb dL_told_17 rfl (lv_at hl 2 rfl) ?_
  refine lv_iload_n hx hb dL_told_18 rfl (lv_at hl 0 rfl) ?_
  refine k_lwS (As := [.ref (w 0), .int (nI 10)]) (rest := [.long ((31 : Int64) * (((31 : Int64) * (((31 : Int64) * (((31 : Int64) * (((31 : Int64) * (((31 : Int64) * (((31 : Int64) * (((31 : Int64) * (((31 : Int64) * (((31 : Int64) * (((31 : Int64) * (239 : Int64)) + ((pCt S n 0).toInt64))) + ((pCt S n 1).toInt64))) + ((pCt S n 2).toInt64))) + ((nI (tG S tl 20).2.2).toInt64))) + ((pCt S n 4).toInt64))) + ((pCt S n 5).toInt64))) + ((pCt S n 6).toInt64))) + ((pCt S n 7).toInt64))) + ((pCt S n 8).toInt64))) + ((pCt S n 9).toInt64)))]) (wc := (oC T (w, q, qz, h, qs, t, gr, u, tr, oc) (Sw, S, Z, Sh, Hs, X, Gg, U, gTr K S tl, O))) (wr := []) (w1 := (oC T (w, q, qz, h, qs, t, gr, u, tr, oc) (Sw, S, Z, Sh, Hs, X, Gg, U, gTr K S tl, O))) (d := 3) (mc := 0) (ms := 0) (v := pCt S n 10) cx (c_L_count l G T H.size w q qz h qs t gr u tr oc Sw S Z Sh Hs X Gg U (gTr K S tl) O n 10 hn (by omega) (by first | assumption | rfl | omega)) (vx_cwSW 2 hts gL_told_L_count rfl rfl rfl (by decide +kernel) ⟨Nat.le_of_ble_eq_true rfl, Nat.le_of_ble_eq_true rfl⟩) (kN_full hP hD hS hA hE hK) rfl hl.1 rfl (Nat.le_of_ble_eq_true rfl) dL_told_19 ⟨Nat.le_of_ble_eq_true rfl, Nat.le_of_ble_eq_true rfl⟩ (fun H locs hP hD hS hz => ?_)
  have hP : va_P G vwCl (oC T (w, q, qz, h, qs, t, gr, u, tr, oc) (Sw, S, Z, Sh, Hs, X, Gg, U, gTr K S tl, O)) H := hP
  have hD : va_D A (oC T (w, q, qz, h, qs, t, gr, u, tr, oc) (Sw, S, Z, Sh, Hs, X, Gg, U, gTr K S tl, O)) := hD
  refine lv_i2l (v := (pCt S n 10).toInt64) hx hb dL_told_22 rfl ?_
  refine lv_ladd hx hb dL_told_23 ?_
  refine lv_lstore_n (lv' := [(1, .long (((31 : Int64) * (((31 : Int64) * (((31 : Int64) * (((31 : Int64) * (((31 : Int64) * (((31 : Int64) * (((31 : Int64) * (((31 : Int64) * (((31 : Int64) * (((31 : Int64) * (((31 : Int64) * (239 : Int64)) + ((pCt S n 0).toInt64))) + ((pCt S n 1).toInt64))) + ((pCt S n 2).toInt64))) + ((nI (tG S tl 20).2.2).toInt64))) + ((pCt S n 4).toInt64))) + ((pCt S n 5).toInt64))) + ((pCt S n 6).toInt64))) + ((pCt S n 7).toInt64))) + ((pCt S n 8).toInt64))) + ((pCt S n 9).toInt64))) + ((pCt S n 10).toInt64))), (3, .int (nI 10)), (0, .ref (w 0))]) hx hb dL_told_24 rfl hl (by decide) rfl (fun ls hl => ?_)
  refine lv_iinc (v := nI 11) (lv' := [(3, .int (nI 11)), (1, .long (((31 : Int64) * (((31 : Int64) * (((31 : Int64) * (((31 : Int64) * (((31 : Int64) * (((31 : Int64) * (((31 : Int64) * (((31 : Int64) * (((31 : Int64) * (((31 : Int64) * (((31 : Int64) * (239 : Int64)) + ((pCt S n 0).toInt64))) + ((pCt S n 1).toInt64))) + ((pCt S n 2).toInt64))) + ((nI (tG S tl 20).2.2).toInt64))) + ((pCt S n 4).toInt64))) + ((pCt S n 5).toInt64))) + ((pCt S n 6).toInt64))) + ((pCt S n 7).toInt64))) + ((pCt S n 8).toInt64))) + ((pCt S n 9).toInt64))) + ((pCt S n 10).toInt64))), (0, .ref (w 0))]) hx hb dL_told_25 hl (k := 1) rfl (n_inc 10 1 rfl) (by decide) rfl (fun ls hl => ?_)
  refine lv_goto (tgt := 6) hx hb dL_told_28 (by decide) ?_
  refine lv_iload_n hx hb dL_told_6 rfl (lv_at hl 0 rfl) ?_
  refine lv_bipush (v := nI 13) hx hb dL_told_7 (by decide) ?_
  refine n_icmp_ge (a := 11) (b := 13) (tgt := 31) hx hb (by decide) (by decide) dL_told_9 (by decide) (fun h9 => absurd h9 (by decide)) (fun c_12 => ?_)
  refine lv_ldc2 (v := 31) hx hb hown (hts (.constantLong RL 206 (31)) (by decide +kernel)) dL_told_12 ?_
  refine lv_lload_n hx hb dL_told_15 rfl (lv_at hl 1 rfl) ?_
  refine lv_lmul hx hb dL_told_16 ?_
  refine lv_aload_n hx hb dL_told_17 rfl (lv_at hl 2 rfl) ?_
  refine lv_iload_n hx hb dL_told_18 rfl (lv_at hl 0 rfl) ?_
  refine k_lwS (As := [.ref (w 0), .int (nI 11)]) (rest := [.long ((31 : Int64) * (((31 : Int64) * (((31 : Int64) * (((31 : Int64) * (((31 : Int64) * (((31 : Int64) * (((31 : Int64) * (((31 : Int64) * (((31 : Int64) * (((31 : Int64) * (((31 : Int64) * (((31 : Int64) * (239 : Int64)) + ((pCt S n 0).toInt64))) + ((pCt S n 1).toInt64))) + ((pCt S n 2).toInt64))) + ((nI (tG S tl 20).2.2).toInt64))) + ((pCt S n 4).toInt64))) + ((pCt S n 5).toInt64))) + ((pCt S n 6).toInt64))) + ((pCt S n 7).toInt64))) + ((pCt S n 8).toInt64))) + ((pCt S n 9).toInt64))) + ((pCt S n 10).toInt64)))]) (wc := (oC T (w, q, qz, h, qs, t, gr, u, tr, oc) (Sw, S, Z, Sh, Hs, X, Gg, U, gTr K S tl, O))) (wr := []) (w1 := (oC T (w, q, qz, h, qs, t, gr, u, tr, oc) (Sw, S, Z, Sh, Hs, X, Gg, U, gTr K S tl, O))) (d := 3) (mc := 0) (ms := 0) (v := pCt S n 11) cx (c_L_count l G T H.size w q qz h qs t gr u tr oc Sw S Z Sh Hs X Gg U (gTr K S tl) O n 11 hn (by omega) (by first | assumption | rfl | omega)) (vx_cwSW 2 hts gL_told_L_count rfl rfl rfl (by decide +kernel) ⟨Nat.le_of_ble_eq_true rfl, Nat.le_of_ble_eq_true rfl⟩) (kN_full hP hD hS hA hE hK) rfl hl.1 rfl (Nat.le_of_ble_eq_true rfl) dL_told_19 ⟨Nat.le_of_ble_eq_true rfl, Nat.le_of_ble_eq_true rfl⟩ (fun H locs hP hD hS hz => ?_)
  have hP : va_P G vwCl (oC T (w, q, qz, h, qs, t, gr, u, tr, oc) (Sw, S, Z, Sh, Hs, X, Gg, U, gTr K S tl, O)) H := hP
  have hD : va_D A (oC T (w, q, qz, h, qs, t, gr, u, tr, oc) (Sw, S, Z, Sh, Hs, X, Gg, U, gTr K S tl, O)) := hD
  refine lv_i2l (v := (pCt S n 11).toInt64) hx hb dL_told_22 rfl ?_
  refine lv_ladd hx hb dL_told_23 ?_
  refine lv_lstore_n (lv' := [(1, .long (((31 : Int64) * (((31 : Int64) * (((31 : Int64) * (((31 : Int64) * (((31 : Int64) * (((31 : Int64) * (((31 : Int64) * (((31 : Int64) * (((31 : Int64) * (((31 : Int64) * (((31 : Int64) * (((31 : Int64) * (239 : Int64)) + ((pCt S n 0).toInt64))) + ((pCt S n 1).toInt64))) + ((pCt S n 2).toInt64))) + ((nI (tG S tl 20).2.2).toInt64))) + ((pCt S n 4).toInt64))) + ((pCt S n 5).toInt64))) + ((pCt S n 6).toInt64))) + ((pCt S n 7).toInt64))) + ((pCt S n 8).toInt64))) + ((pCt S n 9).toInt64))) + ((pCt S n 10).toInt64))) + ((pCt S n 11).toInt64))), (3, .int (nI 11)), (0, .ref (w 0))]) hx hb dL_told_24 rfl hl (by decide) rfl (fun ls hl => ?_)
  refine lv_iinc (v := nI 12) (lv' := [(3, .int (nI 12)), (1, .long (((31 : Int64) * (((31 : Int64) * (((31 : Int64) * (((31 : Int64) * (((31 : Int64) * (((31 : Int64) * (((31 : Int64) * (((31 : Int64) * (((31 : Int64) * (((31 : Int64) * (((31 : Int64) * (((31 : Int64) * (239 : Int64)) + ((pCt S n 0).toInt64))) + ((pCt S n 1).toInt64))) + ((pCt S n 2).toInt64))) + ((nI (tG S tl 20).2.2).toInt64))) + ((pCt S n 4).toInt64))) + ((pCt S n 5).toInt64))) + ((pCt S n 6).toInt64))) + ((pCt S n 7).toInt64))) + ((pCt S n 8).toInt64))) + ((pCt S n 9).toInt64))) + ((pCt S n 10).toInt64))) + ((pCt S n 11).toInt64))), (0, .ref (w 0))]) hx hb dL_told_25 hl (k := 1) rfl (n_inc 11 1 rfl) (by decide) rfl (fun ls hl => ?_)
  refine lv_goto (tgt := 6) hx hb dL_told_28 (by decide) ?_
  refine lv_iload_n hx hb dL_told_6 rfl (lv_at hl 0 rfl) ?_
  refine lv_bipush (v := nI 13) hx hb dL_told_7 (by decide) ?_
  refine n_icmp_ge (a := 12) (b := 13) (tgt := 31) hx hb (by decide) (by decide) dL_told_9 (by decide) (fun h9 => absurd h9 (by decide)) (fun c_13 => ?_)
  refine lv_ldc2 (v := 31) hx hb hown (hts (.constantLong RL 206 (31)) (by decide +kernel)) dL_told_12 ?_
  refine lv_lload_n hx hb dL_told_15 rfl (lv_at hl 1 rfl) ?_
  refine lv_lmul hx hb dL_told_16 ?_
  refine lv_aload_n hx hb dL_told_17 rfl (lv_at hl 2 rfl) ?_
  refine lv_iload_n hx hb dL_told_18 rfl (lv_at hl 0 rfl) ?_
  refine k_lwS (As := [.ref (w 0), .int (nI 12)]) (rest := [.long ((31 : Int64) * (((31 : Int64) * (((31 : Int64) * (((31 : Int64) * (((31 : Int64) * (((31 : Int64) * (((31 : Int64) * (((31 : Int64) * (((31 : Int64) * (((31 : Int64) * (((31 : Int64) * (((31 : Int64) * (((31 : Int64) * (239 : Int64)) + ((pCt S n 0).toInt64))) + ((pCt S n 1).toInt64))) + ((pCt S n 2).toInt64))) + ((nI (tG S tl 20).2.2).toInt64))) + ((pCt S n 4).toInt64))) + ((pCt S n 5).toInt64))) + ((pCt S n 6).toInt64))) + ((pCt S n 7).toInt64))) + ((pCt S n 8).toInt64))) + ((pCt S n 9).toInt64))) + ((pCt S n 10).toInt64))) + ((pCt S n 11).toInt64)))]) (wc := (oC T (w, q, qz, h, qs, t, gr, u, tr, oc) (Sw, S, Z, Sh, Hs, X, Gg, U, gTr K S tl, O))) (wr := []) (w1 := (oC T (w, q, qz, h, qs, t, gr, u, tr, oc) (Sw, S, Z, Sh, Hs, X, Gg, U, gTr K S tl, O))) (d := 3) (mc := 0) (ms := 0) (v := pCt S n 12) cx (c_L_count l G T H.size w q qz h qs t gr u tr oc Sw S Z Sh Hs X Gg U (gTr K S tl) O n 12 hn (by omega) (by first | assumption | rfl | omega)) (vx_cwSW 2 hts gL_told_L_count rfl rfl rfl (by decide +kernel) ⟨Nat.le_of_ble_eq_true rfl, Nat.le_of_ble_eq_true rfl⟩) (kN_full hP hD hS hA hE hK) rfl hl.1 rfl (Nat.le_of_ble_eq_true rfl) dL_told_19 ⟨Nat.le_of_ble_eq_true rfl, Nat.le_of_ble_eq_true rfl⟩ (fun H locs hP hD hS hz => ?_)
  have hP : va_P G vwCl (oC T (w, q, qz, h, qs, t, gr, u, tr, oc) (Sw, S, Z, Sh, Hs, X, Gg, U, gTr K S tl, O)) H := hP
  have hD : va_D A (oC T (w, q, qz, h, qs, t, gr, u, tr, oc) (Sw, S, Z, Sh, Hs, X, Gg, U, gTr K S tl, O)) := hD
  refine lv_i2l (v := (pCt S n 12).toInt64) hx hb dL_told_22 rfl ?_
  refine lv_ladd hx hb dL_told_23 ?_
  refine lv_lstore_n (lv' := [(1, .long (((31 : Int64) * (((31 : Int64) * (((31 : Int64) * (((31 : Int64) * (((31 : Int64) * (((31 : Int64) * (((31 : Int64) * (((31 : Int64) * (((31 : Int64) * (((31 : Int64) * (((31 : Int64) * (((31 : Int64) * (((31 : Int64) * (239 : Int64)) + ((pCt S n 0).toInt64))) + ((pCt S n 1).toInt64))) + ((pCt S n 2).toInt64))) + ((nI (tG S tl 20).2.2).toInt64))) + ((pCt S n 4).toInt64))) + ((pCt S n 5).toInt64))) + ((pCt S n 6).toInt64))) + ((pCt S n 7).toInt64))) + ((pCt S n 8).toInt64))) + ((pCt S n 9).toInt64))) + ((pCt S n 10).toInt64))) + ((pCt S n 11).toInt64))) + ((pCt S n 12).toInt64))), (3, .int (nI 12)), (0, .ref (w 0))]) hx hb dL_told_24 rfl hl (by decide) rfl (fun ls hl => ?_)
  refine lv_iinc (v := nI 13) (lv' := [(3, .int (nI 13)), (1, .long (((31 : Int64) * (((31 : Int64) * (((31 : Int64) * (((31 : Int64) * (((31 : Int64) * (((31 : Int64) * (((31 : Int64) * (((31 : Int64) * (((31 : Int64) * (((31 : Int64) * (((31 : Int64) * (((31 : Int64) * (((31 : Int64) * (239 : Int64)) + ((pCt S n 0).toInt64))) + ((pCt S n 1).toInt64))) + ((pCt S n 2).toInt64))) + ((nI (tG S tl 20).2.2).toInt64))) + ((pCt S n 4).toInt64))) + ((pCt S n 5).toInt64))) + ((pCt S n 6).toInt64))) + ((pCt S n 7).toInt64))) + ((pCt S n 8).toInt64))) + ((pCt S n 9).toInt64))) + ((pCt S n 10).toInt64))) + ((pCt S n 11).toInt64))) + ((pCt S n 12).toInt64))), (0, .ref (w 0))]) hx hb dL_told_25 hl (k := 1) rfl (n_inc 12 1 rfl) (by decide) rfl (fun ls hl => ?_)
  refine lv_goto (tgt := 6) hx hb dL_told_28 (by decide) ?_
  refine lv_iload_n hx hb dL_told_6 rfl (lv_at hl 0 rfl) ?_
  refine lv_bipush (v := nI 13) hx hb dL_told_7 (by decide) ?_
  refine n_icmp_ge (a := 13) (b := 13) (tgt := 31) hx hb (by decide) (by decide) dL_told_9 (by decide) (fun c_14 => ?_) (fun h9 => absurd h9 (by decide))
  have hl : lv_has ls 4 [(3, .int (nI 13)), (1, .long (tdC S tl n 13)), (0, .ref (w 0))] := hl
  refine n_iconst hx hb 0 dL_told_31 (by decide) ?_
  refine lv_istore_n (lv' := [(3, .int (nI 0)), (1, .long (tdC S tl n 13)), (0, .ref (w 0))]) hx hb dL_told_32 rfl hl (by decide) rfl (fun ls hl => ?_)
  have L33 : ∀ (n9 k : Nat) (hk1 : k ≤ 20) (hk2 : 20 - k < n9) (x3 : Int32) (x1 : Int64) (hx3 : x3 = nI k) (hx1 : x1 = tdM S (tdC S tl n 13) k) (H : Heap) (locs : List Loc) (hP : va_P G vwCl (oC T (w, q, qz, h, qs, t, gr, u, tr, oc) (Sw, S, Z, Sh, Hs, X, Gg, U, gTr K S tl, O)) H) (hD : va_D A (oC T (w, q, qz, h, qs, t, gr, u, tr, oc) (Sw, S, Z, Sh, Hs, X, Gg, U, gTr K S tl, O))) (hS : va_S A s.heap H locs) (ls : Array Slot) (hl : lv_has ls 4 [(3, .int x3), (1, .long x1), (0, .ref (w 0))]), W p l e (headSpec wsL_told (rmD 8 0 0)).room s m args below meth c H locs 0 0 Q0 (F0 m 33 ls []) := by
    intro n9
    induction n9 with
    | zero => intros; omega
    | succ n9 ih33 =>
      intro k hk1 hk2 x3 x1 hx3 hx1 H locs hP hD hS ls hl
      subst hx3 hx1
      refine lv_iload_n hx hb dL_told_33 rfl (lv_at hl 0 rfl) ?_
      refine lv_bipush (v := nI 20) hx hb dL_told_34 (by decide) ?_
      refine n_icmp_ge (a := k) (b := 20) (tgt := 146) hx hb (by omega) (by decide) dL_told_36 (by decide) (fun c_15 => ?_) (fun c_16 => ?_)
      · skip
        obtain rfl : k = 20 := (by omega)
        refine n_iconst hx hb 0 dL_told_146 (by decide) ?_
        refine lv_istore_n (lv' := [(3, .int (nI 0)), (1, .long (tdM S (tdC S tl n 13) 20)), (0, .ref (w 0))]) hx hb dL_told_147 rfl hl (by decide) rfl (fun ls hl => ?_)
        have L148_i_17 : ∀ (n9 k : Nat) (hk1 : k ≤ 36) (hk2 : 36 - k < n9) (x3 : Int32) (x1 : Int64) (hx3 : x3 = nI k) (hx1 : x1 = tdR S (tdM S (tdC S tl n 13) 20) k) (H : Heap) (locs : List Loc) (hP : va_P G vwCl (oC T (w, q, qz, h, qs, t, gr, u, tr, oc) (Sw, S, Z, Sh, Hs, X, Gg, U, gTr K S tl, O)) H) (hD : va_D A (oC T (w, q, qz, h, qs, t, gr, u, tr, oc) (Sw, S, Z, Sh, Hs, X, Gg, U, gTr K S tl, O))) (hS : va_S A s.heap H locs) (ls : Array Slot) (hl : lv_has ls 4 [(3, .int x3), (1, .long x1), (0, .ref (w 0))]), W p l e (headSpec wsL_told (rmD 8 0 0)).room s m args below meth c H locs 0 0 Q0 (F0 m 148 ls []) := by
          intro n9
          induction n9 with
          | zero => intros; omega
          | succ n9 ih148 =>
            intro k hk1 hk2 x3 x1 hx3 hx1 H locs hP hD hS ls hl
            subst hx3 hx1
            refine lv_iload_n hx hb dL_told_148 rfl (lv_at hl 0 rfl) ?_
            refine lv_bipush (v := nI 36) hx hb dL_told_149 (by decide) ?_
            refine n_icmp_ge (a := k) (b := 36) (tgt := 180) hx hb (by omega) (by decide) dL_told_151 (by decide) (fun c_18 => ?_) (fun c_19 => ?_)
            · skip
              obtain rfl : k = 36 := (by omega)
              refine n_iconst hx hb 0 dL_told_180 (by decide) ?_
              refine lv_istore_n (lv' := [(3, .int (nI 0)), (1, .long (tdR S (tdM S (tdC S tl n 13) 20) 36)), (0, .ref (w 0))]) hx hb dL_told_181 rfl hl (by decide) rfl (fun ls hl => ?_)
              have L182_i_20 : ∀ (n9 k : Nat) (hk1 : k ≤ 6) (hk2 : 6 - k < n9) (x3 : Int32) (x1 : Int64) (hx3 : x3 = nI k) (hx1 : x1 = tdL S (tdR S (tdM S (tdC S tl n 13) 20) 36) k) (H : Heap) (locs : List Loc) (hP : va_P G vwCl (oC T (w, q, qz, h, qs, t, gr, u, tr, oc) (Sw, S, Z, Sh, Hs, X, Gg, U, gTr K S tl, O)) H) (hD : va_D A (oC T (w, q, qz, h, qs, t, gr, u, tr, oc) (Sw, S, Z, Sh, Hs, X, Gg, U, gTr K S tl, O))) (hS : va_S A s.heap H locs) (ls : Array Slot) (hl : lv_has ls 4 [(3, .int x3), (1, .long x1), (0, .ref (w 0))]), W p l e (headSpec wsL_told (rmD 8 0 0)).room s m args below meth c H locs 0 0 Q0 (F0 m 182 ls []) := by
                intro n9
                induction n9 with
                | zero => intros; omega
                | succ n9 ih182 =>
                  intro k hk1 hk2 x3 x1 hx3 hx1 H locs hP hD hS ls hl
                  subst hx3 hx1
                  refine lv_iload_n hx hb dL_told_182 rfl (lv_at hl 0 rfl) ?_
                  refine lv_bipush (v := nI 6) hx hb dL_told_183 (by decide) ?_
                  refine n_icmp_ge (a := k) (b := 6) (tgt := 207) hx hb (by omega) (by decide) dL_told_185 (by decide) (fun c_21 => ?_) (fun c_22 => ?_)
                  · skip
                    obtain rfl : k = 6 := (by omega)
                    refine lv_lload_n hx hb dL_told_207 rfl (lv_at hl 1 rfl) ?_
                    subst hQ
                    have hP9 : va_P G vwCl (oC T (w, q, qz, h, qs, t, gr, u, tr, oc) (Sw, S, Z, Sh, Hs, X, Gg, U, gTr K S tl, O)) H := hP
                    have hD9 : va_D A (oC T (w, q, qz, h, qs, t, gr, u, tr, oc) (Sw, S, Z, Sh, Hs, X, Gg, U, gTr K S tl, O)) := hD
                    exact e_rwl hx hb hr hlocks hS rfl hP9 hD9 dL_told_208
                  · skip
                    refine lv_ldc2 (v := 31) hx hb hown (hts (.constantLong RL 206 (31)) (by decide +kernel)) dL_told_188 ?_
                    refine lv_lload_n hx hb dL_told_191 rfl (lv_at hl 1 rfl) ?_
                    refine lv_lmul hx hb dL_told_192 ?_
                    refine lv_aload_n hx hb dL_told_193 rfl (lv_at hl 2 rfl) ?_
                    refine lv_iload_n hx hb dL_told_194 rfl (lv_at hl 0 rfl) ?_
                    refine k_lwS (As := [.ref (w 0), .int (nI k)]) (rest := [.long ((31 : Int64) * (tdL S (tdR S (tdM S (tdC S tl n 13) 20) 36) k))]) (wc := (oC T (w, q, qz, h, qs, t, gr, u, tr, oc) (Sw, S, Z, Sh, Hs, X, Gg, U, gTr K S tl, O))) (wr := []) (w1 := (oC T (w, q, qz, h, qs, t, gr, u, tr, oc) (Sw, S, Z, Sh, Hs, X, Gg, U, gTr K S tl, O))) (d := 1) (mc := 0) (ms := 0) (v := (S 15) k) cx (c_L_latest l G T H.size w q qz h qs t gr u tr oc Sw S Z Sh Hs X Gg U (gTr K S tl) O k (by omega)) (vx_cwSW 2 hts gL_told_L_latest rfl rfl rfl (by decide +kernel) ⟨Nat.le_of_ble_eq_true rfl, Nat.le_of_ble_eq_true rfl⟩) (kN_full hP hD hS hA hE hK) rfl hl.1 rfl (Nat.le_of_ble_eq_true rfl) dL_told_195 ⟨Nat.le_of_ble_eq_true rfl, Nat.le_of_ble_eq_true rfl⟩ (fun H locs hP hD hS hz => ?_)
                    have hP : va_P G vwCl (oC T (w, q, qz, h, qs, t, gr, u, tr, oc) (Sw, S, Z, Sh, Hs, X, Gg, U, gTr K S tl, O)) H := hP
                    have hD : va_D A (oC T (w, q, qz, h, qs, t, gr, u, tr, oc) (Sw, S, Z, Sh, Hs, X, Gg, U, gTr K S tl, O)) := hD
                    refine lv_i2l (v := ((S 15) k).toInt64) hx hb dL_told_198 rfl ?_
                    refine lv_ladd hx hb dL_told_199 ?_
                    refine lv_lstore_n (lv' := [(1, .long (((31 : Int64) * (tdL S (tdR S (tdM S (tdC S tl n 13) 20) 36) k)) + (((S 15) k).toInt64))), (3, .int (nI k)), (0, .ref (w 0))]) hx hb dL_told_200 rfl hl (by decide) rfl (fun ls hl => ?_)
                    refine lv_iinc (v := nI (k + 1)) (lv' := [(3, .int (nI (k + 1))), (1, .long (((31 : Int64) * (tdL S (tdR S (tdM S (tdC S tl n 13) 20) 36) k)) + (((S 15) k).toInt64))), (0, .ref (w 0))]) hx hb dL_told_201 hl (k := 1) rfl (n_inc k 1 rfl) (by decide) rfl (fun ls hl => ?_)
                    refine lv_goto (tgt := 182) hx hb dL_told_204 (by decide) ?_
                    have e_23 : (((31 : Int64) * (tdL S (tdR S (tdM S (tdC S tl n 13) 20) 36) k)) + (((S 15) k).toInt64)) = tdL S (tdR S (tdM S (tdC S tl n 13) 20) 36) (k + 1) := rfl
                    exact ih182 (k + 1) (by omega) (by omega) _ _ rfl e_23 _ _ hP hD hS _ (lv_sub hl [0, 1, 2] rfl)
              exact L182_i_20 (6 + 1) 0 (by omega) (by omega) _ _ rfl rfl _ _ hP hD hS _ (lv_sub hl [0, 1, 2] rfl)
            · skip
              refine lv_ldc2 (v := 31) hx hb hown (hts (.constantLong RL 206 (31)) (by decide +kernel)) dL_told_154 ?_
              refine lv_lload_n hx hb dL_told_157 rfl (lv_at hl 1 rfl) ?_
              refine lv_lmul hx hb dL_told_158 ?_
              refine lv_aload_n hx hb dL_told_159 rfl (lv_at hl 2 rfl) ?_
              refine lv_iload_n hx hb dL_told_160 rfl (lv_at hl 0 rfl) ?_
              refine lv_bipush (v := nI 6) hx hb dL_told_161 (by decide) ?_
              refine n_idiv (a := k) (b := 6) hx hb (by omega) (by decide) (by decide) dL_told_163 ?_
              refine lv_iload_n hx hb dL_told_164 rfl (lv_at hl 0 rfl) ?_
              refine lv_bipush (v := nI 6) hx hb dL_told_165 (by decide) ?_
              refine n_irem (a := k) (b := 6) hx hb (by omega) (by decide) (by decide) dL_told_167 ?_
              refine k_lwS (As := [.ref (w 0), .int (nI (k / 6)), .int (nI (k % 6))]) (rest := [.long ((31 : Int64) * (tdR S (tdM S (tdC S tl n 13) 20) k))]) (wc := (oC T (w, q, qz, h, qs, t, gr, u, tr, oc) (Sw, S, Z, Sh, Hs, X, Gg, U, gTr K S tl, O))) (wr := []) (w1 := (oC T (w, q, qz, h, qs, t, gr, u, tr, oc) (Sw, S, Z, Sh, Hs, X, Gg, U, gTr K S tl, O))) (d := 3) (mc := 0) (ms := 0) (v := pRm S (k / 6) (k % 6)) cx (c_L_room l G T H.size w q qz h qs t gr u tr oc Sw S Z Sh Hs X Gg U (gTr K S tl) O (k / 6) (k % 6) (by omega) (by omega)) (vx_cwSW 3 hts gL_told_L_room rfl rfl rfl (by decide +kernel) ⟨Nat.le_of_ble_eq_true rfl, Nat.le_of_ble_eq_true rfl⟩) (kN_full hP hD hS hA hE hK) rfl hl.1 rfl (Nat.le_of_ble_eq_true rfl) dL_told_168 ⟨Nat.le_of_ble_eq_true rfl, Nat.le_of_ble_eq_true rfl⟩ (fun H locs hP hD hS hz => ?_)
              have hP : va_P G vwCl (oC T (w, q, qz, h, qs, t, gr, u, tr, oc) (Sw, S, Z, Sh, Hs, X, Gg, U, gTr K S tl, O)) H := hP
              have hD : va_D A (oC T (w, q, qz, h, qs, t, gr, u, tr, oc) (Sw, S, Z, Sh, Hs, X, Gg, U, gTr K S tl, O)) := hD
              refine lv_i2l (v := (pRm S (k / 6) (k % 6)).toInt64) hx hb dL_told_171 rfl ?_
              refine lv_ladd hx hb dL_told_172 ?_
              refine lv_lstore_n (lv' := [(1, .long (((31 : Int64) * (tdR S (tdM S (tdC S tl n 13) 20) k)) + ((pRm S (k / 6) (k % 6)).toInt64))), (3, .int (nI k)), (0, .ref (w 0))]) hx hb dL_told_173 rfl hl (by decide) rfl (fun ls hl => ?_)
              refine lv_iinc (v := nI (k + 1)) (lv' := [(3, .int (nI (k + 1))), (1, .long (((31 : Int64) * (tdR S (tdM S (tdC S tl n 13) 20) k)) + ((pRm S (k / 6) (k % 6)).toInt64))), (0, .ref (w 0))]) hx hb dL_told_174 hl (k := 1) rfl (n_inc k 1 rfl) (by decide) rfl (fun ls hl => ?_)
              refine lv_goto (tgt := 148) hx hb dL_told_177 (by decide) ?_
              have e_24 : (((31 : Int64) * (tdR S (tdM S (tdC S tl n 13) 20) k)) + ((pRm S (k / 6) (k % 6)).toInt64)) = tdR S (tdM S (tdC S tl n 13) 20) (k + 1) := rfl
              exact ih148 (k + 1) (by omega) (by omega) _ _ rfl e_24 _ _ hP hD hS _ (lv_sub hl [0, 1, 2] rfl)
        exact L148_i_17 (36 + 1) 0 (by omega) (by omega) _ _ rfl rfl _ _ hP hD hS _ (lv_sub hl [0, 1, 2] rfl)
      · skip
        refine lv_ldc2 (v := 31) hx hb hown (hts (.constantLong RL 206 (31)) (by decide +kernel)) dL_told_39 ?_
        refine lv_ldc2 (v := 31) hx hb hown (hts (.constantLong RL 206 (31)) (by decide +kernel)) dL_told_42 ?_
        refine lv_lload_n hx hb dL_told_45 rfl (lv_at hl 1 rfl) ?_
        refine lv_lmul hx hb dL_told_46 ?_
        refine lv_aload_n hx hb dL_told_47 rfl (lv_at hl 2 rfl) ?_
        refine lv_iload_n hx hb dL_told_48 rfl (lv_at hl 0 rfl) ?_
        refine n_iconst hx hb 0 dL_told_49 (by decide) ?_
        refine k_lwS (As := [.ref (w 0), .int (nI k), .int (nI 0)]) (rest := [.long ((31 : Int64) * (tdM S (tdC S tl n 13) k)), .long (31 : Int64)]) (wc := (oC T (w, q, qz, h, qs, t, gr, u, tr, oc) (Sw, S, Z, Sh, Hs, X, Gg, U, gTr K S tl, O))) (wr := []) (w1 := (oC T (w, q, qz, h, qs, t, gr, u, tr, oc) (Sw, S, Z, Sh, Hs, X, Gg, U, gTr K S tl, O))) (d := 2) (mc := 0) (ms := 0) (v := pMsg S k 0) cx (c_L_message l G T H.size w q qz h qs t gr u tr oc Sw S Z Sh Hs X Gg U (gTr K S tl) O k 0 (by omega) (by omega)) (vx_cwSW 3 hts gL_told_L_message rfl rfl rfl (by decide +kernel) ⟨Nat.le_of_ble_eq_true rfl, Nat.le_of_ble_eq_true rfl⟩) (kN_full hP hD hS hA hE hK) rfl hl.1 rfl (Nat.le_of_ble_eq_true rfl) dL_told_50 ⟨Nat.le_of_ble_eq_true rfl, Nat.le_of_ble_eq_true rfl⟩ (fun H locs hP hD hS hz => ?_)
        have hP : va_P G vwCl (oC T (w, q, qz, h, qs, t, gr, u, tr, oc) (Sw, S, Z, Sh, Hs, X, Gg, U, gTr K S tl, O)) H := hP
        have hD : va_D A (oC T (w, q, qz, h, qs, t, gr, u, tr, oc) (Sw, S, Z, Sh, Hs, X, Gg, U, gTr K S tl, O)) := hD
        refine lv_i2l (v := (pMsg S k 0).toInt64) hx hb dL_told_53 rfl ?_
        refine lv_ladd hx hb dL_told_54 ?_
        refine lv_ldc2 (v := 10) hx hb hown (hts (.constantLong RL 208 (10)) (by decide +kernel)) dL_told_55 ?_
        refine lv_aload_n hx hb dL_told_58 rfl (lv_at hl 2 rfl) ?_
        refine lv_iload_n hx hb dL_told_59 rfl (lv_at hl 0 rfl) ?_
        refine n_iconst hx hb 1 dL_told_60 (by decide) ?_
        refine k_lwS (As := [.ref (w 0), .int (nI k), .int (nI 1)]) (rest := [.long (10 : Int64), .long (((31 : Int64) * (tdM S (tdC S tl n 13) k)) + ((pMsg S k 0).toInt64)), .long (31 : Int64)]) (wc := (oC T (w, q, qz, h, qs, t, gr, u, tr, oc) (Sw, S, Z, Sh, Hs, X, Gg, U, gTr K S tl, O))) (wr := []) (w1 := (oC T (w, q, qz, h, qs, t, gr, u, tr, oc) (Sw, S, Z, Sh, Hs, X, Gg, U, gTr K S tl, O))) (d := 2) (mc := 0) (ms := 0) (v := pMsg S k 1) cx (c_L_message l G T H.size w q qz h qs t gr u tr oc Sw S Z Sh Hs X Gg U (gTr K S tl) O k 1 (by omega) (by omega)) (vx_cwSW 3 hts gL_told_L_message rfl rfl rfl (by decide +kernel) ⟨Nat.le_of_ble_eq_true rfl, Nat.le_of_ble_eq_true rfl⟩) (kN_full hP hD hS hA hE hK) rfl hl.1 rfl (Nat.le_of_ble_eq_true rfl) dL_told_61 ⟨Nat.le_of_ble_eq_true rfl, Nat.le_of_ble_eq_true rfl⟩ (fun H locs hP hD hS hz => ?_)
        have hP : va_P G vwCl (oC T (w, q, qz, h, qs, t, gr, u, tr, oc) (Sw, S, Z, Sh, Hs, X, Gg, U, gTr K S tl, O)) H := hP
        have hD : va_D A (oC T (w, q, qz, h, qs, t, gr, u, tr, oc) (Sw, S, Z, Sh, Hs, X, Gg, U, gTr K S tl, O)) := hD
        refine lv_i2l (v := (pMsg S k 1).toInt64) hx hb dL_told_64 rfl ?_
        refine lv_lmul hx hb dL_told_65 ?_
        refine lv_ladd hx hb dL_told_66 ?_
        refine lv_lmul hx hb dL_told_67 ?_
        refine lv_aload_n hx hb dL_told_68 rfl (lv_at hl 2 rfl) ?_
        refine lv_iload_n hx hb dL_told_69 rfl (lv_at hl 0 rfl) ?_
        refine n_iconst hx hb 2 dL_told_70 (by decide) ?_
        refine k_lwS (As := [.ref (w 0), .int (nI k), .int (nI 2)]) (rest := [.long ((31 : Int64) * ((((31 : Int64) * (tdM S (tdC S tl n 13) k)) + ((pMsg S k 0).toInt64)) + ((10 : Int64) * ((pMsg S k 1).toInt64))))]) (wc := (oC T (w, q, qz, h, qs, t, gr, u, tr, oc) (Sw, S, Z, Sh, Hs, X, Gg, U, gTr K S tl, O))) (wr := []) (w1 := (oC T (w, q, qz, h, qs, t, gr, u, tr, oc) (Sw, S, Z, Sh, Hs, X, Gg, U, gTr K S tl, O))) (d := 2) (mc := 0) (ms := 0) (v := pMsg S k 2) cx (c_L_message l G T H.size w q qz h qs t gr u tr oc Sw S Z Sh Hs X Gg U (gTr K S tl) O k 2 (by omega) (by omega)) (vx_cwSW 3 hts gL_told_L_message rfl rfl rfl (by decide +kernel) ⟨Nat.le_of_ble_eq_true rfl, Nat.le_of_ble_eq_true rfl⟩) (kN_full hP hD hS hA hE hK) rfl hl.1 rfl (Nat.le_of_ble_eq_true rfl) dL_told_71 ⟨Nat.le_of_ble_eq_true rfl, Nat.le_of_ble_eq_true rfl⟩ (fun H locs hP hD hS hz => ?_)
        have hP : va_P G vwCl (oC T (w, q, qz, h, qs, t, gr, u, tr, oc) (Sw, S, Z, Sh, Hs, X, Gg, U, gTr K S tl, O)) H := hP
        have hD : va_D A (oC T (w, q, qz, h, qs, t, gr, u, tr, oc) (Sw, S, Z, Sh, Hs, X, Gg, U, gTr K S tl, O)) := hD
        refine lv_i2l (v := (pMsg S k 2).toInt64) hx hb dL_told_74 rfl ?_
        refine lv_ladd hx hb dL_told_75 ?_
        refine lv_ldc2 (v := 100) hx hb hown (hts (.constantLong RL 210 (100)) (by decide +kernel)) dL_told_76 ?_
        refine lv_aload_n hx hb dL_told_79 rfl (lv_at hl 2 rfl) ?_
        refine lv_iload_n hx hb dL_told_80 rfl (lv_at hl 0 rfl) ?_
        refine n_iconst hx hb 3 dL_told_81 (by decide) ?_
        refine k_lwS (As := [.ref (w 0), .int (nI k), .int (nI 3)]) (rest := [.long (100 : Int64), .long (((31 : Int64) * ((((31 : Int64) * (tdM S (tdC S tl n 13) k)) + ((pMsg S k 0).toInt64)) + ((10 : Int64) * ((pMsg S k 1).toInt64)))) + ((pMsg S k 2).toInt64))]) (wc := (oC T (w, q, qz, h, qs, t, gr, u, tr, oc) (Sw, S, Z, Sh, Hs, X, Gg, U, gTr K S tl, O))) (wr := []) (w1 := (oC T (w, q, qz, h, qs, t, gr, u, tr, oc) (Sw, S, Z, Sh, Hs, X, Gg, U, gTr K S tl, O))) (d := 2) (mc := 0) (ms := 0) (v := pMsg S k 3) cx (c_L_message l G T H.size w q qz h qs t gr u tr oc Sw S Z Sh Hs X Gg U (gTr K S tl) O k 3 (by omega) (by omega)) (vx_cwSW 3 hts gL_told_L_message rfl rfl rfl (by decide +kernel) ⟨Nat.le_of_ble_eq_true rfl, Nat.le_of_ble_eq_true rfl⟩) (kN_full hP hD hS hA hE hK) rfl hl.1 rfl (Nat.le_of_ble_eq_true rfl) dL_told_82 ⟨Nat.le_of_ble_eq_true rfl, Nat.le_of_ble_eq_true rfl⟩ (fun H locs hP hD hS hz => ?_)
        have hP : va_P G vwCl (oC T (w, q, qz, h, qs, t, gr, u, tr, oc) (Sw, S, Z, Sh, Hs, X, Gg, U, gTr K S tl, O)) H := hP
        have hD : va_D A (oC T (w, q, qz, h, qs, t, gr, u, tr, oc) (Sw, S, Z, Sh, Hs, X, Gg, U, gTr K S tl, O)) := hD
        refine lv_i2l (v := (pMsg S k 3).toInt64) hx hb dL_told_85 rfl ?_
        refine lv_lmul hx hb dL_told_86 ?_
        refine lv_ladd hx hb dL_told_87 ?_
        refine lv_lstore_n (lv' := [(1, .long ((((31 : Int64) * ((((31 : Int64) * (tdM S (tdC S tl n 13) k)) + ((pMsg S k 0).toInt64)) + ((10 : Int64) * ((pMsg S k 1).toInt64)))) + ((pMsg S k 2).toInt64)) + ((100 : Int64) * ((pMsg S k 3).toInt64)))), (3, .int (nI k)), (0, .ref (w 0))]) hx hb dL_told_88 rfl hl (by decide) rfl (fun ls hl => ?_)
        refine lv_ldc2 (v := 31) hx hb hown (hts (.constantLong RL 206 (31)) (by decide +kernel)) dL_told_89 ?_
        refine lv_lload_n hx hb dL_told_92 rfl (lv_at hl 0 rfl) ?_
        refine lv_lmul hx hb dL_told_93 ?_
        refine lv_aload_n hx hb dL_told_94 rfl (lv_at hl 2 rfl) ?_
        refine lv_iload_n hx hb dL_told_95 rfl (lv_at hl 1 rfl) ?_
        refine n_iconst hx hb 0 dL_told_96 (by decide) ?_
        refine k_lwS (As := [.ref (w 0), .int (nI k), .int (nI 0)]) (rest := [.long ((31 : Int64) * ((((31 : Int64) * ((((31 : Int64) * (tdM S (tdC S tl n 13) k)) + ((pMsg S k 0).toInt64)) + ((10 : Int64) * ((pMsg S k 1).toInt64)))) + ((pMsg S k 2).toInt64)) + ((100 : Int64) * ((pMsg S k 3).toInt64))))]) (wc := (oC T (w, q, qz, h, qs, t, gr, u, tr, oc) (Sw, S, Z, Sh, Hs, X, Gg, U, gTr K S tl, O))) (wr := []) (w1 := (oC T (w, q, qz, h, qs, t, gr, u, tr, oc) (Sw, S, Z, Sh, Hs, X, Gg, U, gTr K S tl, O))) (d := 3) (mc := 0) (ms := 0) (v := pNote S k 0) cx (c_L_note l G T H.size w q qz h qs t gr u tr oc Sw S Z Sh Hs X Gg U (gTr K S tl) O k 0 (by omega) (by omega)) (vx_cwSW 3 hts gL_told_L_note rfl rfl rfl (by decide +kernel) ⟨Nat.le_of_ble_eq_true rfl, Nat.le_of_ble_eq_true rfl⟩) (kN_full hP hD hS hA hE hK) rfl hl.1 rfl (Nat.le_of_ble_eq_true rfl) dL_told_97 ⟨Nat.le_of_ble_eq_true rfl, Nat.le_of_ble_eq_true rfl⟩ (fun H locs hP hD hS hz => ?_)
        have hP : va_P G vwCl (oC T (w, q, qz, h, qs, t, gr, u, tr, oc) (Sw, S, Z, Sh, Hs, X, Gg, U, gTr K S tl, O)) H := hP
        have hD : va_D A (oC T (w, q, qz, h, qs, t, gr, u, tr, oc) (Sw, S, Z, Sh, Hs, X, Gg, U, gTr K S tl, O)) := hD
        refine lv_i2l (v := (pNote S k 0).toInt64) hx hb dL_told_100 rfl ?_
        refine lv_ladd hx hb dL_told_101 ?_
        refine lv_ldc2 (v := 8) hx hb hown (hts (.constantLong RL 212 (8)) (by decide +kernel)) dL_told_102 ?_
        refine lv_aload_n hx hb dL_told_105 rfl (lv_at hl 2 rfl) ?_
        refine lv_iload_n hx hb dL_told_106 rfl (lv_at hl 1 rfl) ?_
        refine n_iconst hx hb 1 dL_told_107 (by decide) ?_
        refine k_lwS (As := [.ref (w 0), .int (nI k), .int (nI 1)]) (rest := [.long (8 : Int64), .long (((31 : Int64) * ((((31 : Int64) * ((((31 : Int64) * (tdM S (tdC S tl n 13) k)) + ((pMsg S k 0).toInt64)) + ((10 : Int64) * ((pMsg S k 1).toInt64)))) + ((pMsg S k 2).toInt64)) + ((100 : Int64) * ((pMsg S k 3).toInt64)))) + ((pNote S k 0).toInt64))]) (wc := (oC T (w, q, qz, h, qs, t, gr, u, tr, oc) (Sw, S, Z, Sh, Hs, X, Gg, U, gTr K S tl, O))) (wr := []) (w1 := (oC T (w, q, qz, h, qs, t, gr, u, tr, oc) (Sw, S, Z, Sh, Hs, X, Gg, U, gTr K S tl, O))) (d := 3) (mc := 0) (ms := 0) (v := pNote S k 1) cx (c_L_note l G T H.size w q qz h qs t gr u tr oc Sw S Z Sh Hs X Gg U (gTr K S tl) O k 1 (by omega) (by omega)) (vx_cwSW 3 hts gL_told_L_note rfl rfl rfl (by decide +kernel) ⟨Nat.le_of_ble_eq_true rfl, Nat.le_of_ble_eq_true rfl⟩) (kN_full hP hD hS hA hE hK) rfl hl.1 rfl (Nat.le_of_ble_eq_true rfl) dL_told_108 ⟨Nat.le_of_ble_eq_true rfl, Nat.le_of_ble_eq_true rfl⟩ (fun H locs hP hD hS hz => ?_)
        have hP : va_P G vwCl (oC T (w, q, qz, h, qs, t, gr, u, tr, oc) (Sw, S, Z, Sh, Hs, X, Gg, U, gTr K S tl, O)) H := hP
        have hD : va_D A (oC T (w, q, qz, h, qs, t, gr, u, tr, oc) (Sw, S, Z, Sh, Hs, X, Gg, U, gTr K S tl, O)) := hD
        refine lv_i2l (v := (pNote S k 1).toInt64) hx hb dL_told_111 rfl ?_
        refine lv_lmul hx hb dL_told_112 ?_
        refine lv_ladd hx hb dL_told_113 ?_
        refine lv_ldc2 (v := 64) hx hb hown (hts (.constantLong RL 214 (64)) (by decide +kernel)) dL_told_114 ?_
        refine lv_aload_n hx hb dL_told_117 rfl (lv_at hl 2 rfl) ?_
        refine lv_iload_n hx hb dL_told_118 rfl (lv_at hl 1 rfl) ?_
        refine n_iconst hx hb 2 dL_told_119 (by decide) ?_
        refine k_lwS (As := [.ref (w 0), .int (nI k), .int (nI 2)]) (rest := [.long (64 : Int64), .long ((((31 : Int64) * ((((31 : Int64) * ((((31 : Int64) * (tdM S (tdC S tl n 13) k)) + ((pMsg S k 0).toInt64)) + ((10 : Int64) * ((pMsg S k 1).toInt64)))) + ((pMsg S k 2).toInt64)) + ((100 : Int64) * ((pMsg S k 3).toInt64)))) + ((pNote S k 0).toInt64)) + ((8 : Int64) * ((pNote S k 1).toInt64)))]) (wc := (oC T (w, q, qz, h, qs, t, gr, u, tr, oc) (Sw, S, Z, Sh, Hs, X, Gg, U, gTr K S tl, O))) (wr := []) (w1 := (oC T (w, q, qz, h, qs, t, gr, u, tr, oc) (Sw, S, Z, Sh, Hs, X, Gg, U, gTr K S tl, O))) (d := 3) (mc := 0) (ms := 0) (v := pNote S k 2) cx (c_L_note l G T H.size w q qz h qs t gr u tr oc Sw S Z Sh Hs X Gg U (gTr K S tl) O k 2 (by omega) (by omega)) (vx_cwSW 3 hts gL_told_L_note rfl rfl rfl (by decide +kernel) ⟨Nat.le_of_ble_eq_true rfl, Nat.le_of_ble_eq_true rfl⟩) (kN_full hP hD hS hA hE hK) rfl hl.1 rfl (Nat.le_of_ble_eq_true rfl) dL_told_120 ⟨Nat.le_of_ble_eq_true rfl, Nat.le_of_ble_eq_true rfl⟩ (fun H locs hP hD hS hz => ?_)
        have hP : va_P G vwCl (oC T (w, q, qz, h, qs, t, gr, u, tr, oc) (Sw, S, Z, Sh, Hs, X, Gg, U, gTr K S tl, O)) H := hP
        have hD : va_D A (oC T (w, q, qz, h, qs, t, gr, u, tr, oc) (Sw, S, Z, Sh, Hs, X, Gg, U, gTr K S tl, O)) := hD
        refine lv_i2l (v := (pNote S k 2).toInt64) hx hb dL_told_123 rfl ?_
        refine lv_lmul hx hb dL_told_124 ?_
        refine lv_ladd hx hb dL_told_125 ?_
        refine lv_ldc2 (v := 512) hx hb hown (hts (.constantLong RL 216 (512)) (by decide +kernel)) dL_told_126 ?_
        refine lv_aload_n hx hb dL_told_129 rfl (lv_at hl 2 rfl) ?_
        refine lv_iload_n hx hb dL_told_130 rfl (lv_at hl 1 rfl) ?_
        refine lv_bipush (v := nI 7) hx hb dL_told_131 (by decide) ?_
        refine k_lwS (As := [.ref (w 0), .int (nI k), .int (nI 7)]) (rest := [.long (512 : Int64), .long (((((31 : Int64) * ((((31 : Int64) * ((((31 : Int64) * (tdM S (tdC S tl n 13) k)) + ((pMsg S k 0).toInt64)) + ((10 : Int64) * ((pMsg S k 1).toInt64)))) + ((pMsg S k 2).toInt64)) + ((100 : Int64) * ((pMsg S k 3).toInt64)))) + ((pNote S k 0).toInt64)) + ((8 : Int64) * ((pNote S k 1).toInt64))) + ((64 : Int64) * ((pNote S k 2).toInt64)))]) (wc := (oC T (w, q, qz, h, qs, t, gr, u, tr, oc) (Sw, S, Z, Sh, Hs, X, Gg, U, gTr K S tl, O))) (wr := []) (w1 := (oC T (w, q, qz, h, qs, t, gr, u, tr, oc) (Sw, S, Z, Sh, Hs, X, Gg, U, gTr K S tl, O))) (d := 3) (mc := 0) (ms := 0) (v := pNote S k 7) cx (c_L_note l G T H.size w q qz h qs t gr u tr oc Sw S Z Sh Hs X Gg U (gTr K S tl) O k 7 (by omega) (by omega)) (vx_cwSW 3 hts gL_told_L_note rfl rfl rfl (by decide +kernel) ⟨Nat.le_of_ble_eq_true rfl, Nat.le_of_ble_eq_true rfl⟩) (kN_full hP hD hS hA hE hK) rfl hl.1 rfl (Nat.le_of_ble_eq_true rfl) dL_told_133 ⟨Nat.le_of_ble_eq_true rfl, Nat.le_of_ble_eq_true rfl⟩ (fun H locs hP hD hS hz => ?_)
        have hP : va_P G vwCl (oC T (w, q, qz, h, qs, t, gr, u, tr, oc) (Sw, S, Z, Sh, Hs, X, Gg, U, gTr K S tl, O)) H := hP
        have hD : va_D A (oC T (w, q, qz, h, qs, t, gr, u, tr, oc) (Sw, S, Z, Sh, Hs, X, Gg, U, gTr K S tl, O)) := hD
        refine lv_i2l (v := (pNote S k 7).toInt64) hx hb dL_told_136 rfl ?_
        refine lv_lmul hx hb dL_told_137 ?_
        refine lv_ladd hx hb dL_told_138 ?_
        refine lv_lstore_n (lv' := [(1, .long ((((((31 : Int64) * ((((31 : Int64) * ((((31 : Int64) * (tdM S (tdC S tl n 13) k)) + ((pMsg S k 0).toInt64)) + ((10 : Int64) * ((pMsg S k 1).toInt64)))) + ((pMsg S k 2).toInt64)) + ((100 : Int64) * ((pMsg S k 3).toInt64)))) + ((pNote S k 0).toInt64)) + ((8 : Int64) * ((pNote S k 1).toInt64))) + ((64 : Int64) * ((pNote S k 2).toInt64))) + ((512 : Int64) * ((pNote S k 7).toInt64)))), (3, .int (nI k)), (0, .ref (w 0))]) hx hb dL_told_139 rfl hl (by decide) rfl (fun ls hl => ?_)
        refine lv_iinc (v := nI (k + 1)) (lv' := [(3, .int (nI (k + 1))), (1, .long ((((((31 : Int64) * ((((31 : Int64) * ((((31 : Int64) * (tdM S (tdC S tl n 13) k)) + ((pMsg S k 0).toInt64)) + ((10 : Int64) * ((pMsg S k 1).toInt64)))) + ((pMsg S k 2).toInt64)) + ((100 : Int64) * ((pMsg S k 3).toInt64)))) + ((pNote S k 0).toInt64)) + ((8 : Int64) * ((pNote S k 1).toInt64))) + ((64 : Int64) * ((pNote S k 2).toInt64))) + ((512 : Int64) * ((pNote S k 7).toInt64)))), (0, .ref (w 0))]) hx hb dL_told_140 hl (k := 1) rfl (n_inc k 1 rfl) (by decide) rfl (fun ls hl => ?_)
        refine lv_goto (tgt := 33) hx hb dL_told_143 (by decide) ?_
        have e_25 : ((((((31 : Int64) * ((((31 : Int64) * ((((31 : Int64) * (tdM S (tdC S tl n 13) k)) + ((pMsg S k 0).toInt64)) + ((10 : Int64) * ((pMsg S k 1).toInt64)))) + ((pMsg S k 2).toInt64)) + ((100 : Int64) * ((pMsg S k 3).toInt64)))) + ((pNote S k 0).toInt64)) + ((8 : Int64) * ((pNote S k 1).toInt64))) + ((64 : Int64) * ((pNote S k 2).toInt64))) + ((512 : Int64) * ((pNote S k 7).toInt64))) = tdM S (tdC S tl n 13) (k + 1) := rfl
        exact ih33 (k + 1) (by omega) (by omega) _ _ rfl e_25 _ _ hP hD hS _ (lv_sub hl [0, 1, 2] rfl)
  exact L33 (20 + 1) 0 (by omega) (by omega) _ _ rfl rfl _ _ hP hD hS _ (lv_sub hl [0, 1, 2] rfl)
