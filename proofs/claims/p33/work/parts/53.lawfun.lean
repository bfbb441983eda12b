/-! the law's own methods over its numbers: what they answer (pure), then their contracts (printed by wip/p33/s60.py) -/
theorem uu_or (a b : Nat) : nI a ||| nI b = nI (a ||| b) := by
  apply Int32.toBitVec_inj.1
  show BitVec.ofNat 32 a ||| BitVec.ofNat 32 b = BitVec.ofNat 32 (a ||| b)
  apply BitVec.eq_of_getLsbD_eq
  intro i hi
  simp [hi]
theorem uu_s : ∀ n : Fin 32, ((nI n.val &&& 31).toBitVec.smod 32).toNat = n.val := by decide +kernel
theorem uu_shr {n k : Nat} (h : n < 2 ^ 31) (hk : k < 32) : iShr (nI n) (nI k) = nI (n / 2 ^ k) := pk_shrN h _ k (uu_s ⟨k, hk⟩)
theorem uu_shl {n k : Nat} (hk : k < 32) (h : n * 2 ^ k < 2 ^ 32) : iShl (nI n) (nI k) = nI (n * 2 ^ k) := pk_shlN _ k (uu_s ⟨k, hk⟩) h
theorem uu_7 {n : Nat} (h : n < 2 ^ 32) : nI n &&& nI 7 = nI (n % 8) := pk_andN h 3 (by decide)
theorem uu_24 {n : Nat} (h : n < 2 ^ 32) : nI n &&& (16777215 : Int32) = nI (n % 16777216) := pk_andN h 24 (by decide)
def lowN (v : Int32) : Nat := v.toBitVec.toNat % 2 ^ 31
theorem lowN_e (v : Int32) : v &&& (2147483647 : Int32) = nI (lowN v) := pk_and v 31 (by decide)
theorem lowN_lt (v : Int32) : lowN v < 2 ^ 31 := Nat.mod_lt _ (by decide)
def loN (v : Int32) (n : Nat) : Nat := lowN v % n
theorem loN_lt (v : Int32) {n : Nat} (h : 0 < n) : loN v n < n := Nat.mod_lt _ h
def lLt (nt : Nat) : Nat := if nt < 5 then 99 + nt else if nt = 5 then 97 else 104
theorem lLt_b {nt : Nat} (h : nt < 7) : 97 ≤ lLt nt ∧ lLt nt ≤ 104 := by unfold lLt; split <;> (try split) <;> omega
theorem nar_cn {n : Nat} (h : n < 65536) : narrow .char (.int (nI n)) = .int (nI n) := by have h2 := nar_c (nI n); rwa [i2c_n h] at h2
def uMy (tu : Nat) : Nat := tu / 2 ^ 24
theorem uMy_e {tu : Nat} (h : tu < 2 ^ 31) : iShr (nI tu) (nI 24) = nI (uMy tu) := uu_shr h (by decide)
theorem uMy_9 {tu : Nat} (h : tu < 167772160) : uMy tu ≤ 9 := by unfold uMy; omega
def uNt (tu k : Nat) : Nat := tu / 2 ^ (3 * k) % 8
theorem uNt_e {tu k : Nat} (h : tu < 2 ^ 31) (hk : k < 10) : iShr (nI tu) (nI (3 * k)) = nI (tu / 2 ^ (3 * k)) := uu_shr h (by omega)
theorem uNt_lt (tu k : Nat) : uNt tu k < 8 := Nat.mod_lt _ (by decide)
theorem uNt_b {tu k : Nat} (h : tu < 2 ^ 31) : tu / 2 ^ (3 * k) < 2 ^ 31 := Nat.lt_of_le_of_lt (Nat.div_le_self _ _) h
def uWi (tu nt : Nat) : Nat := if 8 < uMy tu then tu else if uMy tu = 8 then 150994944 else (tu % 16777216 ||| nt * 2 ^ (3 * uMy tu)) + (uMy tu + 1) * 2 ^ 24
theorem uu_pw {k : Nat} (h : k < 8) : 2 ^ (3 * k) ≤ 2097152 := Nat.le_trans (Nat.pow_le_pow_right (by decide) (show 3 * k ≤ 21 by omega)) (by decide)
theorem bt1 {p : Prop} [Decidable p] (h : p) : nI 1 = bI (decide p) := by rw [decide_eq_true h]; rfl
theorem bt0 {p : Prop} [Decidable p] (h : ¬ p) : nI 0 = bI (decide p) := by rw [decide_eq_false h]; rfl
theorem uu_np {nt k : Nat} (h : nt < 8) (hk : k < 8) : nt * 2 ^ (3 * k) < 16777216 := Nat.lt_of_le_of_lt (Nat.mul_le_mul (show nt ≤ 7 by omega) (uu_pw hk)) (by decide)
theorem uu_o24 {a b : Nat} (ha : a < 16777216) (hb : b < 16777216) : a ||| b < 16777216 := Nat.or_lt_two_pow (n := 24) ha hb
theorem uWi_lt {tu nt : Nat} (h : tu < 167772160) (hn : nt < 8) : uWi tu nt < 167772160 := by
  unfold uWi
  split
  · exact h
  · split
    · decide
    · rename_i h1 h2
      have h3 := uu_o24 (a := tu % 16777216) (b := nt * 2 ^ (3 * uMy tu)) (Nat.mod_lt _ (by decide)) (uu_np hn (by omega))
      omega
def uSh (tu : Nat) : Nat → Nat | 0 => 1 | k + 1 => 8 * uSh tu k + (uNt tu k + 7 - uNt tu 0) % 7
theorem uSh_lt (tu k : Nat) : uSh tu k < 2 * 8 ^ k := by
  induction k with
  | zero => exact (by decide : (1 : Nat) < 2 * 8 ^ 0)
  | succ k ih =>
    show 8 * uSh tu k + (uNt tu k + 7 - uNt tu 0) % 7 < 2 * 8 ^ (k + 1)
    rw [Nat.pow_succ]
    omega
theorem uSh_31 {k : Nat} (h : k ≤ 9) (tu : Nat) : uSh tu k < 2 ^ 31 := Nat.lt_of_lt_of_le (uSh_lt tu k) (Nat.le_trans (Nat.mul_le_mul_left 2 (Nat.pow_le_pow_right (by decide) h)) (by decide))
def uAl (a b : Nat) : Bool := decide (uMy a = uMy b ∧ uSh a (uMy a) = uSh b (uMy a))
def uNb (tn : Nat → Nat) (m n e : Nat) : Bool := decide (uMy (tn e) < n ∨ ¬ uSh (tn e) n = uSh (tn m) n)
def uNw (tn : Nat → Nat) (m n : Nat) : Nat → Bool | 0 => true | e + 1 => uNw tn m n e && uNb tn m n e
theorem uNw_f {tn : Nat → Nat} {m n e : Nat} (h : uNw tn m n e = false) : ∀ j, e ≤ j → uNw tn m n j = false := by
  intro j hj
  obtain ⟨i, rfl⟩ := Nat.le.dest hj
  induction i with
  | zero => exact h
  | succ i ih => show (uNw tn m n (e + i) && uNb tn m n (e + i)) = false; rw [ih (by omega)]; rfl
def uN1 (tn : Nat → Nat) (m t0 : Nat) : Nat → Nat | 0 => t0 | n + 1 => uN1 tn m t0 n + (if uNw tn m (n + 1) m then 1 else 0)
def uNd (tn : Nat → Nat) : Nat → Nat | 0 => 0 | m + 1 => uN1 tn m (uNd tn m) (uMy (tn m))
def vAp (e f : Nat) : Nat := if e < f then f - e else e - f
theorem vAp_lt {e f : Nat} (he : e < 3) (hf : f < 3) : vAp e f < 3 := by unfold vAp; split <;> omega
def vFc (y3 fr : Int32) (f e : Nat) : Int32 := if iShr fr (nI e) &&& nI 1 = nI 1 ∧ ¬ y3 < nI (vAp e f) then iShl (nI 1) (nI f) else nI 0
def vFe (y3 fr : Int32) (f : Nat) (s0 : Int32) : Nat → Int32 | 0 => s0 | e + 1 => vFe y3 fr f s0 e ||| vFc y3 fr f e
def vFf (y3 fr s0 : Int32) : Nat → Int32 | 0 => s0 | f + 1 => vFe y3 fr f (vFf y3 fr s0 f) 3
def vFn (y2 y3 : Int32) (f0 : Nat) : Nat → Int32 × Int32 | 0 => (nI 0, iShl (nI 1) (nI f0)) | n + 1 => (vFf y3 (vFn y2 y3 f0 n).2 (vFn y2 y3 f0 n).1 3, (vFn y2 y3 f0 n).2 ||| (vFf y3 (vFn y2 y3 f0 n).2 (vFn y2 y3 f0 n).1 3 &&& y2))
def vFl (fq : Nat → Int32) (f0 : Nat) : Int32 := (vFn (fq 2) (fq 3) f0 4).1
def vB2 (F : Int32) (fq fb : Nat → Int32) (m : Nat) : Nat → Int32 | 0 => nI 0 | k + 1 => vB2 F fq fb m k ||| iShl ((iShr F (iRem (nI k + fq 0) (nI 3)) &&& iShr (fb k) (nI m)) &&& nI 1) (nI k)
def vBi (F : Int32) (fr : Nat → Int32) (r w k : Nat) : Bool := decide (¬ k = r ∧ iShr F (nI (k / 2)) &&& nI 1 = nI 1 ∧ (w = 0 ∨ fr (5 * k) = fr (5 * r)))
def vBj (fq fr : Nat → Int32) (r m w : Nat) : Bool := decide (w < 3 ∨ 11 < m ∧ fr (5 * r) = fq 1)
def vBc (F : Int32) (fq fr : Nat → Int32) (r m w k : Nat) : Int32 := if (vBi F fr r w k && vBj fq fr r m w) = true then iShl (nI 1) (nI k) else nI 0
def vB1 (F : Int32) (fq fr : Nat → Int32) (r m w : Nat) : Nat → Int32 | 0 => nI 0 | k + 1 => vB1 F fq fr r m w k ||| vBc F fq fr r m w k
def vBr (fq fr fb : Nat → Int32) (r m w : Nat) : Int32 := if w = 2 then vB2 (vFl fq (r / 2)) fq fb m 3 else vB1 (vFl fq (r / 2)) fq fr r m w 6
def vLe (x : Int32) : Nat → Int32 | 0 => x | k + 1 => vLe x k &&& (vLe x k - nI 1)
def x6 (x : Int32) : Prop := ∃ n : Nat, n < 64 ∧ x = nI n
theorem vLe_all : ∀ n : Fin 64, (vLe (nI n.val) (nOf (pBC (nI n.val))) = 0 ∧ nOf (pBC (nI n.val)) < 7 ∧ pBC (nI n.val) = nI (nOf (pBC (nI n.val)))) ∧ ∀ j : Fin 7, j.val < nOf (pBC (nI n.val)) → ¬ vLe (nI n.val) j.val = 0 := by decide +kernel
theorem vLe_x {x : Int32} (h : x6 x) : ∃ c : Nat, c < 7 ∧ vLe x c = 0 ∧ pBC x = nI c ∧ ∀ j : Nat, j < c → ¬ vLe x j = 0 := by
  obtain ⟨n, hn, rfl⟩ := h
  obtain ⟨⟨h1, h2, h3⟩, h4⟩ := vLe_all ⟨n, hn⟩
  exact ⟨nOf (pBC (nI n)), h2, h1, h3, fun j hj => h4 ⟨j, Nat.lt_trans hj h2⟩ hj⟩
def vWy (fq fr : Nat → Int32) (tn : Nat → Nat) (r m : Nat) : Int32 := if ¬ fr (5 * r + 1) < fq 4 then nI 1 else if tn m = 0 then nI 2 else nI 0
theorem vWy_c (fq fr : Nat → Int32) (tn : Nat → Nat) (r m : Nat) : vWy fq fr tn r m = nI 0 ∨ vWy fq fr tn r m = nI 1 ∨ vWy fq fr tn r m = nI 2 := by
  unfold vWy
  split
  · exact Or.inr (Or.inl rfl)
  · split
    · exact Or.inr (Or.inr rfl)
    · exact Or.inl rfl
def vW2 (fq : Nat → Int32) (r m : Nat) : Nat → Int32 := upd (upd (upd fq 6 (nI r)) 7 (nI m)) 8 (vFl (upd (upd fq 6 (nI r)) 7 (nI m)) (r / 2))
def vW3 (fq fr fb : Nat → Int32) (r m : Nat) : Nat → Int32 := upd (vW2 fq r m) 9 (vBr (vW2 fq r m) fr fb r m 1)
def vW4 (fq fr fb : Nat → Int32) (r m : Nat) : Nat → Int32 := upd (vW3 fq fr fb r m) 10 (vBr (vW3 fq fr fb r m) fr fb r m 2)
def vW5 (fq fr fb : Nat → Int32) (r m : Nat) : Nat → Int32 := upd (vW4 fq fr fb r m) 11 (vBr (vW4 fq fr fb r m) fr fb r m 3)
def vWh (fq fr fb : Nat → Int32) (r m : Nat) : Int32 := vBr (vW5 fq fr fb r m) fr fb r m 0
def vR1 (w5 f : Nat → Int32) (k : Nat) : Nat → Int32 := upd f (5 * k + 3) (f (5 * k + 3) + (iShr (w5 9) (nI k) &&& nI 1))
def vR2 (w5 f : Nat → Int32) (he : Int32) (k : Nat) : Nat → Int32 := upd (vR1 w5 f k) (5 * k + 4) ((vR1 w5 f k) (5 * k + 4) + ((iShr he (nI k) &&& nI 1) - (iShr (w5 9) (nI k) &&& nI 1)))
def vR3 (w5 f : Nat → Int32) (he : Int32) (k : Nat) : Nat → Int32 := upd (vR2 w5 f he k) (5 * k + 2) ((vR2 w5 f he k) (5 * k + 2) ||| (iShr (w5 11) (nI k) &&& nI 1))
def vRL (w5 f : Nat → Int32) (he : Int32) : Nat → (Nat → Int32) | 0 => f | k + 1 => vR3 w5 (vRL w5 f he k) he k
def vWr (fq fr fb : Nat → Int32) (r m : Nat) : Nat → Int32 := upd (vRL (vW5 fq fr fb r m) fr (vWh fq fr fb r m) 6) (5 * r + 1) ((vRL (vW5 fq fr fb r m) fr (vWh fq fr fb r m) 6) (5 * r + 1) + pBC ((vW5 fq fr fb r m) 10))
def vWq (fq fr fb : Nat → Int32) (r m : Nat) : Nat → Int32 := upd (vW5 fq fr fb r m) 5 ((vW5 fq fr fb r m) 5 + nI 1)
def vWt (fq ft fr fb : Nat → Int32) (r m : Nat) : Nat → Int32 := upd (upd ft (20 + m) (ft (20 + m) + nI 1)) (40 + m) ((upd ft (20 + m) (ft (20 + m) + nI 1)) (40 + m) + pBC ((vW5 fq fr fb r m) 9))
def vIs (tu : Nat) : Bool := decide (1 < uMy tu ∧ uMy tu < 9)
def vId (tn : Nat → Nat) (a tu m : Nat) : Bool := decide (m = a ∨ ¬ uAl (tn m) tu = true)
def vIl (tn : Nat → Nat) (a tu : Nat) : Nat → Bool | 0 => vIs tu | m + 1 => vIl tn a tu m && vId tn a tu m
theorem vIl_f {tn : Nat → Nat} {a tu m : Nat} (h : vIl tn a tu m = false) : ∀ j, m ≤ j → vIl tn a tu j = false := by
  intro j hj
  obtain ⟨i, rfl⟩ := Nat.le.dest hj
  induction i with
  | zero => exact h
  | succ i ih => show (vIl tn a tu (m + i) && vId tn a tu (m + i)) = false; rw [ih (by omega)]; rfl
def vD0t (ft : Nat → Int32) (tn : Nat → Nat) (a tu : Nat) : Nat → Int32 := upd ft a (if vIl tn a tu 20 = true then nI tu else ft a)
def vD2r (fq fr : Nat → Int32) (a : Nat) : Nat → Int32 := upd fr (5 * a) (fq 1)
def vD3q (fq : Nat → Int32) (a : Nat) : Nat → Int32 := upd fq 1 (nI a)
def vD4q (fq : Nat → Int32) : Nat → Int32 := upd fq 0 (fq 0 + nI 1)
def vD4s (q4 f : Nat → Int32) (k : Nat) : Nat → Int32 := upd (upd f (5 * k + 2) (nI 0)) (5 * k + 1) (if iRem (q4 0) (nI 7) = 0 then nI 0 else (upd f (5 * k + 2) (nI 0)) (5 * k + 1))
def vD4r (q4 fr : Nat → Int32) : Nat → (Nat → Int32) | 0 => fr | k + 1 => vD4s q4 (vD4r q4 fr k) k
def vD5q (fq : Nat → Int32) (a e : Nat) : Nat → Int32 := upd fq 2 (if e % 2 = 1 then fq 2 ||| iShl (nI 1) (nI a) else fq 2 &&& (iShl (nI 1) (nI a) ^^^ -1))
def vD6b (fb : Nat → Int32) (a e : Nat) : Nat → Int32 := upd fb a (fb a ^^^ iShl (nI 1) (nI e))
def vD7q (fq : Nat → Int32) (a e : Nat) : Nat → Int32 := upd fq (3 + a) (nI e)
def vD8t (ft : Nat → Int32) (a : Nat) : Nat → Int32 := upd ft a (nI 0)

set_option maxHeartbeats 4000000 in
set_option maxRecDepth 100000 in
theorem c_L_low (l : Launch) (G : va_G) (T : Nat → ClassId) (A : Nat → Prop) (v : Int32) (n : Nat) (hn0 : 0 < n) (hn31 : n < 2 ^ 31) : RO l yL_low wsL_low 0 G T A ([]) [.int v, .int (nI n)] (nI (loN v n)) := by
  refine Met.ofW (cc := cL_low) (maxL := 2) (ret := (some .int)) (by decide) rfl ?_
  intro p e s m args below meth c s₁ B hml hv
  obtain ⟨ha, hP, hK, hE⟩ := hv
  have hx := B.exec
  have hb := B.bytes
  have hr := B.returns
  have hlocks := B.notSynchronized
  have hts := atoms_spec (ws := wsL_low) B.pre
  have hown : s.vm.findClass RL = some m.cls := findClass_of_methodNamed B.named
  have cx : CallFix p m c cL_low 2 s args wsL_low RL := ⟨hx, hb, hml, hown, hts⟩
  refine w_entry ha (Nat.le_of_ble_eq_true rfl) (fun ls hl => ?_)
  refine w_q (fun Q0 hQ => ?_)
  have hl : lv_has ls 2 [(0, .int v), (1, .int (nI n))] := hl
  have hP : va_P G vwCl [] s.heap := hP
  have hlo := lowN_lt v
  refine lv_iload_n hx hb dL_low_0 rfl (lv_at hl 0 rfl) ?_
  refine lv_ldc (v := 2147483647) hx hb hown (hts (.constant RL 9 (2147483647)) (by decide +kernel)) dL_low_1 ?_
  refine lv_iand hx hb dL_low_3 ?_
  refine n_top (y := nI (lowN v)) (lowN_e v) ?_
  refine lv_iload_n hx hb dL_low_4 rfl (lv_at hl 1 rfl) ?_
  refine n_irem (a := lowN v) (b := n) hx hb (by omega) (by omega) (by omega) dL_low_5 ?_
  subst hQ
  exact e_ro hx hb hr hlocks rfl dL_low_6
set_option maxHeartbeats 4000000 in
set_option maxRecDepth 100000 in
theorem c_L_letter (l : Launch) (G : va_G) (T : Nat → ClassId) (A : Nat → Prop) (nt : Nat) (hn7 : nt < 7) : RO l yL_letter wsL_letter 0 G T A ([]) [.int (nI nt)] (nI (lLt nt)) := by
  refine Met.ofW (cc := cL_letter) (maxL := 1) (ret := (some .char)) (by decide) rfl ?_
  intro p e s m args below meth c s₁ B hml hv
  obtain ⟨ha, hP, hK, hE⟩ := hv
  have hx := B.exec
  have hb := B.bytes
  have hr := B.returns
  have hlocks := B.notSynchronized
  have hts := atoms_spec (ws := wsL_letter) B.pre
  have hown : s.vm.findClass RL = some m.cls := findClass_of_methodNamed B.named
  have cx : CallFix p m c cL_letter 1 s args wsL_letter RL := ⟨hx, hb, hml, hown, hts⟩
  refine w_entry ha (Nat.le_of_ble_eq_true rfl) (fun ls hl => ?_)
  refine w_q (fun Q0 hQ => ?_)
  have hl : lv_has ls 1 [(0, .int (nI nt))] := hl
  have hP : va_P G vwCl [] s.heap := hP
  refine lv_iload_n hx hb dL_letter_0 rfl (lv_at hl 0 rfl) ?_
  refine n_iconst hx hb 5 dL_letter_1 (by decide) ?_
  refine n_icmp_ge (a := nt) (b := 5) (tgt := 13) hx hb (by omega) (by decide) dL_letter_2 (by decide) (fun c_1 => ?_) (fun c_2 => ?_)
  · skip
    refine lv_iload_n hx hb dL_letter_13 rfl (lv_at hl 0 rfl) ?_
    refine n_iconst hx hb 5 dL_letter_14 (by decide) ?_
    refine n_icmp_ne (a := nt) (b := 5) (tgt := 23) hx hb (by omega) (by decide) dL_letter_15 (by decide) (fun c_3 => ?_) (fun c_4 => ?_)
    · skip
      refine lv_bipush (v := nI 104) hx hb dL_letter_23 (by decide) ?_
      subst hQ
      exact e_roz hx hb hr hlocks (nar_cn (by omega)) (by unfold lLt; first | rw [if_pos (by omega)] | rw [if_neg (by omega), if_pos (by omega)] | rw [if_neg (by omega), if_neg (by omega)]) dL_letter_25
    · skip
      refine lv_bipush (v := nI 97) hx hb dL_letter_18 (by decide) ?_
      refine lv_goto (tgt := 25) hx hb dL_letter_20 (by decide) ?_
      subst hQ
      exact e_roz hx hb hr hlocks (nar_cn (by omega)) (by unfold lLt; first | rw [if_pos (by omega)] | rw [if_neg (by omega), if_pos (by omega)] | rw [if_neg (by omega), if_neg (by omega)]) dL_letter_25
  · skip
    refine lv_bipush (v := nI 99) hx hb dL_letter_5 (by decide) ?_
    refine lv_iload_n hx hb dL_letter_7 rfl (lv_at hl 0 rfl) ?_
    refine n_iadd (a := 99) (b := nt) hx hb dL_letter_8 ?_
    refine lv_i2c (v := i2c (nI (99 + nt))) hx hb dL_letter_9 rfl ?_
    refine n_top (y := nI (99 + nt)) (i2c_n (by omega)) ?_
    refine lv_goto (tgt := 25) hx hb dL_letter_10 (by decide) ?_
    subst hQ
    exact e_roz hx hb hr hlocks (nar_cn (by omega)) (by unfold lLt; first | rw [if_pos (by omega)] | rw [if_neg (by omega), if_pos (by omega)] | rw [if_neg (by omega), if_neg (by omega)]) dL_letter_25
set_option maxHeartbeats 4000000 in
set_option maxRecDepth 100000 in
theorem c_L_many (l : Launch) (G : va_G) (T : Nat → ClassId) (A : Nat → Prop) (tu : Nat) (htu : tu < 2 ^ 31) : RO l yL_many wsL_many 0 G T A ([]) [.int (nI tu)] (nI (uMy tu)) := by
  refine Met.ofW (cc := cL_many) (maxL := 1) (ret := (some .int)) (by decide) rfl ?_
  intro p e s m args below meth c s₁ B hml hv
  obtain ⟨ha, hP, hK, hE⟩ := hv
  have hx := B.exec
  have hb := B.bytes
  have hr := B.returns
  have hlocks := B.notSynchronized
  have hts := atoms_spec (ws := wsL_many) B.pre
  have hown : s.vm.findClass RL = some m.cls := findClass_of_methodNamed B.named
  have cx : CallFix p m c cL_many 1 s args wsL_many RL := ⟨hx, hb, hml, hown, hts⟩
  refine w_entry ha (Nat.le_of_ble_eq_true rfl) (fun ls hl => ?_)
  refine w_q (fun Q0 hQ => ?_)
  have hl : lv_has ls 1 [(0, .int (nI tu))] := hl
  have hP : va_P G vwCl [] s.heap := hP
  refine lv_iload_n hx hb dL_many_0 rfl (lv_at hl 0 rfl) ?_
  refine lv_bipush (v := nI 24) hx hb dL_many_1 (by decide) ?_
  refine x_ishr hx hb dL_many_3 ?_
  refine n_top (y := nI (uMy tu)) (uMy_e htu) ?_
  subst hQ
  exact e_ro hx hb hr hlocks rfl dL_many_4
set_option maxHeartbeats 4000000 in
set_option maxRecDepth 100000 in
theorem c_L_noteAt (l : Launch) (G : va_G) (T : Nat → ClassId) (A : Nat → Prop) (tu : Nat) (k : Nat) (htu : tu < 2 ^ 31) (hk10 : k < 10) : RO l yL_noteAt wsL_noteAt 0 G T A ([]) [.int (nI tu), .int (nI k)] (nI (uNt tu k)) := by
  refine Met.ofW (cc := cL_noteAt) (maxL := 2) (ret := (some .int)) (by decide) rfl ?_
  intro p e s m args below meth c s₁ B hml hv
  obtain ⟨ha, hP, hK, hE⟩ := hv
  have hx := B.exec
  have hb := B.bytes
  have hr := B.returns
  have hlocks := B.notSynchronized
  have hts := atoms_spec (ws := wsL_noteAt) B.pre
  have hown : s.vm.findClass RL = some m.cls := findClass_of_methodNamed B.named
  have cx : CallFix p m c cL_noteAt 2 s args wsL_noteAt RL := ⟨hx, hb, hml, hown, hts⟩
  refine w_entry ha (Nat.le_of_ble_eq_true rfl) (fun ls hl => ?_)
  refine w_q (fun Q0 hQ => ?_)
  have hl : lv_has ls 2 [(0, .int (nI tu)), (1, .int (nI k))] := hl
  have hP : va_P G vwCl [] s.heap := hP
  have hbb := uNt_b (k := k) htu
  refine lv_iload_n hx hb dL_noteAt_0 rfl (lv_at hl 0 rfl) ?_
  refine n_iconst hx hb 3 dL_noteAt_1 (by decide) ?_
  refine lv_iload_n hx hb dL_noteAt_2 rfl (lv_at hl 1 rfl) ?_
  refine n_imul (a := 3) (b := k) hx hb dL_noteAt_3 ?_
  refine x_ishr hx hb dL_noteAt_4 ?_
  refine n_top (y := nI (tu / 2 ^ (3 * k))) (uNt_e htu hk10) ?_
  refine lv_bipush (v := nI 7) hx hb dL_noteAt_5 (by decide) ?_
  refine lv_iand hx hb dL_noteAt_7 ?_
  refine n_top (y := nI (uNt tu k)) (uu_7 (by omega)) ?_
  subst hQ
  exact e_ro hx hb hr hlocks rfl dL_noteAt_8
set_option maxHeartbeats 4000000 in
set_option maxRecDepth 100000 in
theorem c_L_with (l : Launch) (G : va_G) (T : Nat → ClassId) (A : Nat → Prop) (tu : Nat) (nt : Nat) (htu : tu < 167772160) (hn8 : nt < 8) : RO l yL_with wsL_with 1 G T A ([]) [.int (nI tu), .int (nI nt)] (nI (uWi tu nt)) := by
  refine Met.ofW (cc := cL_with) (maxL := 3) (ret := (some .int)) (by decide) rfl ?_
  intro p e s m args below meth c s₁ B hml hv
  obtain ⟨ha, hP, hK, hE⟩ := hv
  have hx := B.exec
  have hb := B.bytes
  have hr := B.returns
  have hlocks := B.notSynchronized
  have hts := atoms_spec (ws := wsL_with) B.pre
  have hown : s.vm.findClass RL = some m.cls := findClass_of_methodNamed B.named
  have cx : CallFix p m c cL_with 3 s args wsL_with RL := ⟨hx, hb, hml, hown, hts⟩
  refine w_entry ha (Nat.le_of_ble_eq_true rfl) (fun ls hl => ?_)
  refine w_q (fun Q0 hQ => ?_)
  have hl : lv_has ls 3 [(0, .int (nI tu)), (1, .int (nI nt))] := hl
  have hP : va_P G vwCl [] s.heap := hP
  have hm9 := uMy_9 htu
  refine lv_iload_n hx hb dL_with_0 rfl (lv_at hl 0 rfl) ?_
  refine k_roS (As := [.int (nI tu)]) (rest := []) (wc := []) (d := 0) (v := nI (uMy tu)) cx (c_L_many l G T A tu (by omega)) (va_cwS 1 hts gL_with_L_many rfl rfl rfl (by decide +kernel) ⟨Nat.le_of_ble_eq_true rfl, Nat.le_of_ble_eq_true rfl⟩) hP hK hE rfl hl.1 rfl (Nat.le_of_ble_eq_true rfl) dL_with_1 ⟨Nat.le_of_ble_eq_true rfl, Nat.le_of_ble_eq_true rfl⟩ ?_
  refine lv_istore_n (lv' := [(2, .int (nI (uMy tu))), (0, .int (nI tu)), (1, .int (nI nt))]) hx hb dL_with_4 rfl hl (by decide) rfl (fun ls hl => ?_)
  refine lv_iload_n hx hb dL_with_5 rfl (lv_at hl 0 rfl) ?_
  refine lv_bipush (v := nI 8) hx hb dL_with_6 (by decide) ?_
  refine n_icmp_le (a := uMy tu) (b := 8) (tgt := 15) hx hb (by omega) (by decide) dL_with_8 (by decide) (fun c_1 => ?_) (fun c_2 => ?_)
  · skip
    refine lv_iload_n hx hb dL_with_15 rfl (lv_at hl 0 rfl) ?_
    refine lv_bipush (v := nI 8) hx hb dL_with_16 (by decide) ?_
    refine n_icmp_ne (a := uMy tu) (b := 8) (tgt := 26) hx hb (by omega) (by decide) dL_with_18 (by decide) (fun c_3 => ?_) (fun c_4 => ?_)
    · skip
      refine lv_iload_n hx hb dL_with_26 rfl (lv_at hl 1 rfl) ?_
      have hm8 : uMy tu < 8 := (by omega)
      have hnp := uu_np hn8 hm8
      refine lv_ldc (v := 16777215) hx hb hown (hts (.constant RL 89 (16777215)) (by decide +kernel)) dL_with_27 ?_
      refine lv_iand hx hb dL_with_29 ?_
      refine n_top (y := nI (tu % 16777216)) (uu_24 (by omega)) ?_
      refine lv_iload_n hx hb dL_with_30 rfl (lv_at hl 2 rfl) ?_
      refine n_iconst hx hb 3 dL_with_31 (by decide) ?_
      refine lv_iload_n hx hb dL_with_32 rfl (lv_at hl 0 rfl) ?_
      refine n_imul (a := 3) (b := uMy tu) hx hb dL_with_33 ?_
      refine x_ishl hx hb dL_with_34 ?_
      refine n_top (y := nI (nt * 2 ^ (3 * uMy tu))) (uu_shl (by omega) (by omega)) ?_
      refine lv_ior hx hb dL_with_35 ?_
      refine n_top (y := nI (tu % 16777216 ||| nt * 2 ^ (3 * uMy tu))) (uu_or _ _) ?_
      refine lv_iload_n hx hb dL_with_36 rfl (lv_at hl 0 rfl) ?_
      refine n_iconst hx hb 1 dL_with_37 (by decide) ?_
      refine n_iadd (a := uMy tu) (b := 1) hx hb dL_with_38 ?_
      refine lv_bipush (v := nI 24) hx hb dL_with_39 (by decide) ?_
      refine x_ishl hx hb dL_with_41 ?_
      refine n_top (y := nI ((uMy tu + 1) * 2 ^ 24)) (uu_shl (by decide) (by omega)) ?_
      refine n_iadd (a := tu % 16777216 ||| nt * 2 ^ (3 * uMy tu)) (b := (uMy tu + 1) * 2 ^ 24) hx hb dL_with_42 ?_
      subst hQ
      exact e_ro hx hb hr hlocks (by unfold uWi; first | (rw [if_pos (show 8 < uMy tu by omega)]) | (rw [if_neg (show ¬ 8 < uMy tu by omega), if_pos (show uMy tu = 8 by omega)] <;> rfl) | (rw [if_neg (show ¬ 8 < uMy tu by omega), if_neg (show ¬ uMy tu = 8 by omega)])) dL_with_43
    · skip
      refine lv_ldc (v := 150994944) hx hb hown (hts (.constant RL 88 (150994944)) (by decide +kernel)) dL_with_21 ?_
      refine lv_goto (tgt := 43) hx hb dL_with_23 (by decide) ?_
      subst hQ
      exact e_ro hx hb hr hlocks (by unfold uWi; first | (rw [if_pos (show 8 < uMy tu by omega)]) | (rw [if_neg (show ¬ 8 < uMy tu by omega), if_pos (show uMy tu = 8 by omega)] <;> rfl) | (rw [if_neg (show ¬ 8 < uMy tu by omega), if_neg (show ¬ uMy tu = 8 by omega)])) dL_with_43
  · skip
    refine lv_iload_n hx hb dL_with_11 rfl (lv_at hl 1 rfl) ?_
    refine lv_goto (tgt := 43) hx hb dL_with_12 (by decide) ?_
    subst hQ
    exact e_ro hx hb hr hlocks (by unfold uWi; first | (rw [if_pos (show 8 < uMy tu by omega)]) | (rw [if_neg (show ¬ 8 < uMy tu by omega), if_pos (show uMy tu = 8 by omega)] <;> rfl) | (rw [if_neg (show ¬ 8 < uMy tu by omega), if_neg (show ¬ uMy tu = 8 by omega)])) dL_with_43
set_option maxHeartbeats 4000000 in
set_option maxRecDepth 100000 in
theorem c_L_shape (l : Launch) (G : va_G) (T : Nat → ClassId) (A : Nat → Prop) (tu : Nat) (nn : Nat) (htu : tu < 167772160) (hn9 : nn ≤ 9) : RO l yL_shape wsL_shape 1 G T A ([]) [.int (nI tu), .int (nI nn)] (nI (uSh tu nn)) := by
  refine Met.ofW (cc := cL_shape) (maxL := 4) (ret := (some .int)) (by decide) rfl ?_
  intro p e s m args below meth c s₁ B hml hv
  obtain ⟨ha, hP, hK, hE⟩ := hv
  have hx := B.exec
  have hb := B.bytes
  have hr := B.returns
  have hlocks := B.notSynchronized
  have hts := atoms_spec (ws := wsL_shape) B.pre
  have hown : s.vm.findClass RL = some m.cls := findClass_of_methodNamed B.named
  have cx : CallFix p m c cL_shape 4 s args wsL_shape RL := ⟨hx, hb, hml, hown, hts⟩
  refine w_entry ha (Nat.le_of_ble_eq_true rfl) (fun ls hl => ?_)
  refine w_q (fun Q0 hQ => ?_)
  have hl : lv_has ls 4 [(0, .int (nI tu)), (1, .int (nI nn))] := hl
  have hP : va_P G vwCl [] s.heap := hP
  refine n_iconst hx hb 1 dL_shape_0 (by decide) ?_
  refine lv_istore_n (lv' := [(2, .int (nI 1)), (0, .int (nI tu)), (1, .int (nI nn))]) hx hb dL_shape_1 rfl hl (by decide) rfl (fun ls hl => ?_)
  refine n_iconst hx hb 0 dL_shape_2 (by decide) ?_
  refine lv_istore_n (lv' := [(3, .int (nI 0)), (2, .int (nI 1)), (0, .int (nI tu)), (1, .int (nI nn))]) hx hb dL_shape_3 rfl hl (by decide) rfl (fun ls hl => ?_)
  have L4 : ∀ (n9 k : Nat) (hk1 : k ≤ nn) (hk2 : nn - k < n9) (x3 : Int32) (x2 : Int32) (hx3 : x3 = nI k) (hx2 : x2 = nI (uSh tu k)) (ls : Array Slot) (hl : lv_has ls 4 [(3, .int x3), (2, .int x2), (0, .int (nI tu)), (1, .int (nI nn))]), W p l e (headSpec wsL_shape (rmD 1 0 0)).room s m args below meth c s.heap [] 0 0 Q0 (F0 m 4 ls []) := by
    intro n9
    induction n9 with
    | zero => intros; omega
    | succ n9 ih4 =>
      intro k hk1 hk2 x3 x2 hx3 hx2 ls hl
      subst hx3 hx2
      refine lv_iload_n hx hb dL_shape_4 rfl (lv_at hl 0 rfl) ?_
      refine lv_iload_n hx hb dL_shape_5 rfl (lv_at hl 3 rfl) ?_
      refine n_icmp_ge (a := k) (b := nn) (tgt := 38) hx hb (by omega) (by omega) dL_shape_6 (by decide) (fun c_1 => ?_) (fun c_2 => ?_)
      · skip
        refine lv_iload_n hx hb dL_shape_38 rfl (lv_at hl 1 rfl) ?_
        subst hQ
        exact e_ro hx hb hr hlocks (by rw [show k = nn from (by omega)]) dL_shape_39
      · skip
        refine lv_bipush (v := nI 8) hx hb dL_shape_9 (by decide) ?_
        refine lv_iload_n hx hb dL_shape_11 rfl (lv_at hl 1 rfl) ?_
        refine n_imul (a := 8) (b := uSh tu k) hx hb dL_shape_12 ?_
        have hu0 := uNt_lt tu 0
        have huk := uNt_lt tu k
        refine lv_iload_n hx hb dL_shape_13 rfl (lv_at hl 2 rfl) ?_
        refine lv_iload_n hx hb dL_shape_14 rfl (lv_at hl 0 rfl) ?_
        refine k_roS (As := [.int (nI tu), .int (nI k)]) (rest := [.int (nI (8 * (uSh tu k)))]) (wc := []) (d := 0) (v := nI (uNt tu k)) cx (c_L_noteAt l G T A tu k (by omega) (by omega)) (va_cwS 2 hts gL_shape_L_noteAt rfl rfl rfl (by decide +kernel) ⟨Nat.le_of_ble_eq_true rfl, Nat.le_of_ble_eq_true rfl⟩) hP hK hE rfl hl.1 rfl (Nat.le_of_ble_eq_true rfl) dL_shape_15 ⟨Nat.le_of_ble_eq_true rfl, Nat.le_of_ble_eq_true rfl⟩ ?_
        refine lv_bipush (v := nI 7) hx hb dL_shape_18 (by decide) ?_
        refine n_iadd (a := uNt tu k) (b := 7) hx hb dL_shape_20 ?_
        refine lv_iload_n hx hb dL_shape_21 rfl (lv_at hl 2 rfl) ?_
        refine n_iconst hx hb 0 dL_shape_22 (by decide) ?_
        refine k_roS (As := [.int (nI tu), .int (nI 0)]) (rest := [.int (nI (uNt tu k + 7)), .int (nI (8 * (uSh tu k)))]) (wc := []) (d := 0) (v := nI (uNt tu 0)) cx (c_L_noteAt l G T A tu 0 (by omega) (by omega)) (va_cwS 2 hts gL_shape_L_noteAt rfl rfl rfl (by decide +kernel) ⟨Nat.le_of_ble_eq_true rfl, Nat.le_of_ble_eq_true rfl⟩) hP hK hE rfl hl.1 rfl (Nat.le_of_ble_eq_true rfl) dL_shape_23 ⟨Nat.le_of_ble_eq_true rfl, Nat.le_of_ble_eq_true rfl⟩ ?_
        refine n_isub (a := uNt tu k + 7) (b := uNt tu 0) hx hb (by omega) dL_shape_26 ?_
        refine lv_bipush (v := nI 7) hx hb dL_shape_27 (by decide) ?_
        refine n_irem (a := (uNt tu k + 7) - (uNt tu 0)) (b := 7) hx hb (by omega) (by decide) (by decide) dL_shape_29 ?_
        refine n_iadd (a := 8 * (uSh tu k)) (b := ((uNt tu k + 7) - (uNt tu 0)) % 7) hx hb dL_shape_30 ?_
        refine lv_istore_n (lv' := [(2, .int (nI (8 * (uSh tu k) + (((uNt tu k + 7) - (uNt tu 0)) % 7)))), (3, .int (nI k)), (0, .int (nI tu)), (1, .int (nI nn))]) hx hb dL_shape_31 rfl hl (by decide) rfl (fun ls hl => ?_)
        refine lv_iinc (v := nI (k + 1)) (lv' := [(3, .int (nI (k + 1))), (2, .int (nI (8 * (uSh tu k) + (((uNt tu k + 7) - (uNt tu 0)) % 7)))), (0, .int (nI tu)), (1, .int (nI nn))]) hx hb dL_shape_32 hl (k := 1) rfl (n_inc k 1 rfl) (by decide) rfl (fun ls hl => ?_)
        refine lv_goto (tgt := 4) hx hb dL_shape_35 (by decide) ?_
        have e_3 : (nI (8 * (uSh tu k) + (((uNt tu k + 7) - (uNt tu 0)) % 7))) = nI (uSh tu (k + 1)) := rfl
        exact ih4 (k + 1) (by omega) (by omega) _ _ rfl e_3 _ (lv_sub hl [0, 1, 2, 3] rfl)
  exact L4 (nn + 1) 0 (by omega) (by omega) _ _ rfl rfl _ (lv_sub hl [0, 1, 2, 3] rfl)
set_option maxHeartbeats 4000000 in
set_option maxRecDepth 100000 in
theorem c_L_alike (l : Launch) (G : va_G) (T : Nat → ClassId) (A : Nat → Prop) (ta : Nat) (tb : Nat) (hta : ta < 167772160) (htb : tb < 167772160) : RO l yL_alike wsL_alike 2 G T A ([]) [.int (nI ta), .int (nI tb)] (bI (uAl ta tb)) := by
  refine Met.ofW (cc := cL_alike) (maxL := 2) (ret := (some .boolean)) (by decide) rfl ?_
  intro p e s m args below meth c s₁ B hml hv
  obtain ⟨ha, hP, hK, hE⟩ := hv
  have hx := B.exec
  have hb := B.bytes
  have hr := B.returns
  have hlocks := B.notSynchronized
  have hts := atoms_spec (ws := wsL_alike) B.pre
  have hown : s.vm.findClass RL = some m.cls := findClass_of_methodNamed B.named
  have cx : CallFix p m c cL_alike 2 s args wsL_alike RL := ⟨hx, hb, hml, hown, hts⟩
  refine w_entry ha (Nat.le_of_ble_eq_true rfl) (fun ls hl => ?_)
  refine w_q (fun Q0 hQ => ?_)
  have hl : lv_has ls 2 [(0, .int (nI ta)), (1, .int (nI tb))] := hl
  have hP : va_P G vwCl [] s.heap := hP
  have hm9 := uMy_9 hta
  have hmb := uMy_9 htb
  have hsa := uSh_31 hm9 ta
  have hsb := uSh_31 hm9 tb
  refine lv_iload_n hx hb dL_alike_0 rfl (lv_at hl 0 rfl) ?_
  refine k_roS (As := [.int (nI ta)]) (rest := []) (wc := []) (d := 0) (v := nI (uMy ta)) cx (c_L_many l G T A ta (by omega)) (va_cwS 1 hts gL_alike_L_many rfl rfl rfl (by decide +kernel) ⟨Nat.le_of_ble_eq_true rfl, Nat.le_of_ble_eq_true rfl⟩) hP hK hE rfl hl.1 rfl (Nat.le_of_ble_eq_true rfl) dL_alike_1 ⟨Nat.le_of_ble_eq_true rfl, Nat.le_of_ble_eq_true rfl⟩ ?_
  refine lv_iload_n hx hb dL_alike_4 rfl (lv_at hl 1 rfl) ?_
  refine k_roS (As := [.int (nI tb)]) (rest := [.int (nI (uMy ta))]) (wc := []) (d := 0) (v := nI (uMy tb)) cx (c_L_many l G T A tb (by omega)) (va_cwS 1 hts gL_alike_L_many rfl rfl rfl (by decide +kernel) ⟨Nat.le_of_ble_eq_true rfl, Nat.le_of_ble_eq_true rfl⟩) hP hK hE rfl hl.1 rfl (Nat.le_of_ble_eq_true rfl) dL_alike_5 ⟨Nat.le_of_ble_eq_true rfl, Nat.le_of_ble_eq_true rfl⟩ ?_
  refine n_icmp_ne (a := uMy ta) (b := uMy tb) (tgt := 34) hx hb (by omega) (by omega) dL_alike_8 (by decide) (fun c_1 => ?_) (fun c_2 => ?_)
  · skip
    refine n_iconst hx hb 0 dL_alike_34 (by decide) ?_
    subst hQ
    exact e_roz hx hb hr hlocks (by first | rfl | exact nar_b _) (by unfold uAl; first | exact bt1 ⟨by assumption, by assumption⟩ | exact bt0 (fun h9 => by first | exact absurd h9.1 (by assumption) | exact absurd h9.2 (by assumption))) dL_alike_35
  · skip
    refine lv_iload_n hx hb dL_alike_11 rfl (lv_at hl 0 rfl) ?_
    refine lv_iload_n hx hb dL_alike_12 rfl (lv_at hl 0 rfl) ?_
    refine k_roS (As := [.int (nI ta)]) (rest := [.int (nI ta)]) (wc := []) (d := 0) (v := nI (uMy ta)) cx (c_L_many l G T A ta (by omega)) (va_cwS 1 hts gL_alike_L_many rfl rfl rfl (by decide +kernel) ⟨Nat.le_of_ble_eq_true rfl, Nat.le_of_ble_eq_true rfl⟩) hP hK hE rfl hl.1 rfl (Nat.le_of_ble_eq_true rfl) dL_alike_13 ⟨Nat.le_of_ble_eq_true rfl, Nat.le_of_ble_eq_true rfl⟩ ?_
    refine k_roS (As := [.int (nI ta), .int (nI (uMy ta))]) (rest := []) (wc := []) (d := 1) (v := nI (uSh ta (uMy ta))) cx (c_L_shape l G T A ta (uMy ta) (by omega) (by omega)) (va_cwS 2 hts gL_alike_L_shape rfl rfl rfl (by decide +kernel) ⟨Nat.le_of_ble_eq_true rfl, Nat.le_of_ble_eq_true rfl⟩) hP hK hE rfl hl.1 rfl (Nat.le_of_ble_eq_true rfl) dL_alike_16 ⟨Nat.le_of_ble_eq_true rfl, Nat.le_of_ble_eq_true rfl⟩ ?_
    refine lv_iload_n hx hb dL_alike_19 rfl (lv_at hl 1 rfl) ?_
    refine lv_iload_n hx hb dL_alike_20 rfl (lv_at hl 0 rfl) ?_
    refine k_roS (As := [.int (nI ta)]) (rest := [.int (nI tb), .int (nI (uSh ta (uMy ta)))]) (wc := []) (d := 0) (v := nI (uMy ta)) cx (c_L_many l G T A ta (by omega)) (va_cwS 1 hts gL_alike_L_many rfl rfl rfl (by decide +kernel) ⟨Nat.le_of_ble_eq_true rfl, Nat.le_of_ble_eq_true rfl⟩) hP hK hE rfl hl.1 rfl (Nat.le_of_ble_eq_true rfl) dL_alike_21 ⟨Nat.le_of_ble_eq_true rfl, Nat.le_of_ble_eq_true rfl⟩ ?_
    refine k_roS (As := [.int (nI tb), .int (nI (uMy ta))]) (rest := [.int (nI (uSh ta (uMy ta)))]) (wc := []) (d := 1) (v := nI (uSh tb (uMy ta))) cx (c_L_shape l G T A tb (uMy ta) (by omega) (by omega)) (va_cwS 2 hts gL_alike_L_shape rfl rfl rfl (by decide +kernel) ⟨Nat.le_of_ble_eq_true rfl, Nat.le_of_ble_eq_true rfl⟩) hP hK hE rfl hl.1 rfl (Nat.le_of_ble_eq_true rfl) dL_alike_24 ⟨Nat.le_of_ble_eq_true rfl, Nat.le_of_ble_eq_true rfl⟩ ?_
    refine n_icmp_ne (a := uSh ta (uMy ta)) (b := uSh tb (uMy ta)) (tgt := 34) hx hb (by omega) (by omega) dL_alike_27 (by decide) (fun c_3 => ?_) (fun c_4 => ?_)
    · skip
      refine n_iconst hx hb 0 dL_alike_34 (by decide) ?_
      subst hQ
      exact e_roz hx hb hr hlocks (by first | rfl | exact nar_b _) (by unfold uAl; first | exact bt1 ⟨by assumption, by assumption⟩ | exact bt0 (fun h9 => by first | exact absurd h9.1 (by assumption) | exact absurd h9.2 (by assumption))) dL_alike_35
    · skip
      refine n_iconst hx hb 1 dL_alike_30 (by decide) ?_
      refine lv_goto (tgt := 35) hx hb dL_alike_31 (by decide) ?_
      subst hQ
      exact e_roz hx hb hr hlocks (by first | rfl | exact nar_b _) (by unfold uAl; first | exact bt1 ⟨by assumption, by assumption⟩ | exact bt0 (fun h9 => by first | exact absurd h9.1 (by assumption) | exact absurd h9.2 (by assumption))) dL_alike_35
set_option maxHeartbeats 4000000 in
set_option maxRecDepth 100000 in
theorem c_L_nodes (l : Launch) (G : va_G) (T : Nat → ClassId) (A : Nat → Prop) (at9 : Nat) (ft : Nat → Int32) (tn : Nat → Nat) (htn : ∀ i : Nat, i < 20 → ft i = nI (tn i)) (htn9 : ∀ i : Nat, i < 20 → tn i < 167772160) : RO l yL_nodes wsL_nodes 2 G T A ([(at9, .inl (T 0, 60, .inl ft))]) [.ref at9] (nI (uNd tn 20)) := by
  refine Met.ofW (cc := cL_nodes) (maxL := 6) (ret := (some .int)) (by decide) rfl ?_
  intro p e s m args below meth c s₁ B hml hv
  obtain ⟨ha, hP, hK, hE⟩ := hv
  have hx := B.exec
  have hb := B.bytes
  have hr := B.returns
  have hlocks := B.notSynchronized
  have hts := atoms_spec (ws := wsL_nodes) B.pre
  have hown : s.vm.findClass RL = some m.cls := findClass_of_methodNamed B.named
  have cx : CallFix p m c cL_nodes 6 s args wsL_nodes RL := ⟨hx, hb, hml, hown, hts⟩
  refine w_entry ha (Nat.le_of_ble_eq_true rfl) (fun ls hl => ?_)
  refine w_q (fun Q0 hQ => ?_)
  have hl : lv_has ls 6 [(0, .ref at9)] := hl
  have hP : va_P G vwCl [(at9, .inl (T 0, 60, .inl ft))] s.heap := hP
  refine n_iconst hx hb 0 dL_nodes_0 (by decide) ?_
  refine lv_istore_n (lv' := [(1, .int (nI 0)), (0, .ref at9)]) hx hb dL_nodes_1 rfl hl (by decide) rfl (fun ls hl => ?_)
  refine n_iconst hx hb 0 dL_nodes_2 (by decide) ?_
  refine lv_istore_n (lv' := [(2, .int (nI 0)), (1, .int (nI 0)), (0, .ref at9)]) hx hb dL_nodes_3 rfl hl (by decide) rfl (fun ls hl => ?_)
  have L4 : ∀ (n9 k : Nat) (hk1 : k ≤ 20) (hk2 : 20 - k < n9) (x2 : Int32) (x1 : Int32) (hx2 : x2 = nI k) (hx1 : x1 = nI (uNd tn k)) (ls : Array Slot) (hl : lv_has ls 6 [(2, .int x2), (1, .int x1), (0, .ref at9)]), W p l e (headSpec wsL_nodes (rmD 2 0 0)).room s m args below meth c s.heap [] 0 0 Q0 (F0 m 4 ls []) := by
    intro n9
    induction n9 with
    | zero => intros; omega
    | succ n9 ih4 =>
      intro k hk1 hk2 x2 x1 hx2 hx1 ls hl
      subst hx2 hx1
      refine lv_iload_n hx hb dL_nodes_4 rfl (lv_at hl 0 rfl) ?_
      refine lv_bipush (v := nI 20) hx hb dL_nodes_5 (by decide) ?_
      refine n_icmp_ge (a := k) (b := 20) (tgt := 106) hx hb (by omega) (by decide) dL_nodes_7 (by decide) (fun c_1 => ?_) (fun c_2 => ?_)
      · skip
        refine lv_iload_n hx hb dL_nodes_106 rfl (lv_at hl 1 rfl) ?_
        subst hQ
        exact e_ro hx hb hr hlocks (by obtain rfl : k = 20 := (by omega); rfl) dL_nodes_107
      · skip
        refine n_iconst hx hb 1 dL_nodes_10 (by decide) ?_
        refine lv_istore_n (lv' := [(3, .int (nI 1)), (2, .int (nI k)), (1, .int (nI (uNd tn k))), (0, .ref at9)]) hx hb dL_nodes_11 rfl hl (by decide) rfl (fun ls hl => ?_)
        have L12_i_3 : ∀ (n9 j : Nat) (hk1 : j ≤ uMy (tn k)) (hk2 : uMy (tn k) - j < n9) (x3 : Int32) (x1 : Int32) (hx3 : x3 = nI (j + 1)) (hx1 : x1 = nI (uN1 tn k (uNd tn k) j)) (ls : Array Slot) (hl : lv_has ls 6 [(3, .int x3), (2, .int (nI k)), (1, .int x1), (0, .ref at9)]), W p l e (headSpec wsL_nodes (rmD 2 0 0)).room s m args below meth c s.heap [] 0 0 Q0 (F0 m 12 ls []) := by
          intro n9
          induction n9 with
          | zero => intros; omega
          | succ n9 ih12 =>
            intro j hk1 hk2 x3 x1 hx3 hx1 ls hl
            subst hx3 hx1
            have ht9 := htn9 k (by omega)
            have hm9 := uMy_9 ht9
            refine lv_iload_n hx hb dL_nodes_12 rfl (lv_at hl 0 rfl) ?_
            refine lv_aload_n hx hb dL_nodes_13 rfl (lv_at hl 3 rfl) ?_
            refine lv_iload_n hx hb dL_nodes_14 rfl (lv_at hl 1 rfl) ?_
            refine n_iald hx hb hK hP 0 0 rfl rfl k (by omega) (by decide) dL_nodes_15 ?_
            refine n_top (y := nI (tn k)) (htn _ (by omega)) ?_
            refine k_roS (As := [.int (nI (tn k))]) (rest := [.int (nI (j + 1))]) (wc := []) (d := 0) (v := nI (uMy (tn k))) cx (c_L_many l G T A (tn k) (by omega)) (va_cwS 1 hts gL_nodes_L_many rfl rfl rfl (by decide +kernel) ⟨Nat.le_of_ble_eq_true rfl, Nat.le_of_ble_eq_true rfl⟩) (hP.sub (ws' := []) [] rfl) hK hE rfl hl.1 rfl (Nat.le_of_ble_eq_true rfl) dL_nodes_16 ⟨Nat.le_of_ble_eq_true rfl, Nat.le_of_ble_eq_true rfl⟩ ?_
            refine n_icmp_gt (a := j + 1) (b := uMy (tn k)) (tgt := 100) hx hb (by omega) (by omega) dL_nodes_19 (by decide) (fun c_4 => ?_) (fun c_5 => ?_)
            · skip
              refine lv_iinc (v := nI (k + 1)) (lv' := [(2, .int (nI (k + 1))), (3, .int (nI (j + 1))), (1, .int (nI (uN1 tn k (uNd tn k) j))), (0, .ref at9)]) hx hb dL_nodes_100 hl (k := 1) rfl (n_inc k 1 rfl) (by decide) rfl (fun ls hl => ?_)
              refine lv_goto (tgt := 4) hx hb dL_nodes_103 (by decide) ?_
              have e_6 : (nI (uN1 tn k (uNd tn k) j)) = nI (uNd tn (k + 1)) := (by rw [show j = uMy (tn k) from (by omega)]; rfl)
              exact ih4 (k + 1) (by omega) (by omega) _ _ rfl e_6 _ (lv_sub hl [0, 2, 3] rfl)
            · skip
              refine n_iconst hx hb 1 dL_nodes_22 (by decide) ?_
              refine lv_istore (lv' := [(4, .int (nI 1)), (3, .int (nI (j + 1))), (2, .int (nI k)), (1, .int (nI (uN1 tn k (uNd tn k) j))), (0, .ref at9)]) hx hb dL_nodes_23 hl (by decide) rfl (fun ls hl => ?_)
              refine n_iconst hx hb 0 dL_nodes_25 (by decide) ?_
              refine lv_istore (lv' := [(5, .int (nI 0)), (4, .int (nI 1)), (3, .int (nI (j + 1))), (2, .int (nI k)), (1, .int (nI (uN1 tn k (uNd tn k) j))), (0, .ref at9)]) hx hb dL_nodes_26 hl (by decide) rfl (fun ls hl => ?_)
              have L28_i_7 : ∀ (n9 ie : Nat) (hk1 : ie ≤ k) (hk2 : k - ie < n9) (x5 : Int32) (x4 : Int32) (hx5 : x5 = nI ie) (hx4 : x4 = bI (uNw tn k (j + 1) ie)) (ls : Array Slot) (hl : lv_has ls 6 [(5, .int x5), (4, .int x4), (3, .int (nI (j + 1))), (2, .int (nI k)), (1, .int (nI (uN1 tn k (uNd tn k) j))), (0, .ref at9)]), W p l e (headSpec wsL_nodes (rmD 2 0 0)).room s m args below meth c s.heap [] 0 0 Q0 (F0 m 28 ls []) := by
                intro n9
                induction n9 with
                | zero => intros; omega
                | succ n9 ih28 =>
                  intro ie hk1 hk2 x5 x4 hx5 hx4 ls hl
                  subst hx5 hx4
                  have he9 := fun h9 : ie < 20 => htn9 ie h9
                  refine lv_iload hx hb dL_nodes_28 (lv_at hl 0 rfl) ?_
                  refine lv_iload_n hx hb dL_nodes_30 rfl (lv_at hl 3 rfl) ?_
                  refine n_icmp_ge (a := ie) (b := k) (tgt := 81) hx hb (by omega) (by omega) dL_nodes_31 (by decide) (fun c_8 => ?_) (fun c_9 => ?_)
                  · skip
                    have hf : uNw tn k (j + 1) k = uNw tn k (j + 1) ie := (by rcases Nat.lt_or_ge ie k with h9 | h9; exact (by first | exact (uNw_f c_8 k hk1).trans (c_8).symm | (exfalso; omega)); exact congrArg _ (by omega))
                    refine lv_iload_n hx hb dL_nodes_81 rfl (lv_at hl 4 rfl) ?_
                    refine lv_iload hx hb dL_nodes_82 (lv_at hl 1 rfl) ?_
                    refine b_if_eq (b := uNw tn k (j + 1) ie) (tgt := 91) hx hb dL_nodes_84 (by decide) (fun c_10 => ?_) (fun c_11 => ?_)
                    · skip
                      refine n_iconst hx hb 0 dL_nodes_91 (by decide) ?_
                      refine n_iadd (a := uN1 tn k (uNd tn k) j) (b := 0) hx hb dL_nodes_92 ?_
                      refine n_top (y := nI (uN1 tn k (uNd tn k) j)) rfl ?_
                      refine lv_istore_n (lv' := [(1, .int (nI (uN1 tn k (uNd tn k) j))), (5, .int (nI ie)), (4, .int (bI (uNw tn k (j + 1) ie))), (3, .int (nI (j + 1))), (2, .int (nI k)), (0, .ref at9)]) hx hb dL_nodes_93 rfl hl (by decide) rfl (fun ls hl => ?_)
                      refine lv_iinc (v := nI (j + 1 + 1)) (lv' := [(3, .int (nI (j + 1 + 1))), (1, .int (nI (uN1 tn k (uNd tn k) j))), (5, .int (nI ie)), (4, .int (bI (uNw tn k (j + 1) ie))), (2, .int (nI k)), (0, .ref at9)]) hx hb dL_nodes_94 hl (k := 3) rfl (n_inc (j + 1) 1 rfl) (by decide) rfl (fun ls hl => ?_)
                      refine lv_goto (tgt := 12) hx hb dL_nodes_97 (by decide) ?_
                      have e_12 : (nI (j + 1 + 1)) = nI ((j + 1) + 1) := (by first | rfl | simp [bI, c_2, c_5, c_8, c_10])
                      have e_13 : (nI (uN1 tn k (uNd tn k) j)) = nI (uN1 tn k (uNd tn k) (j + 1)) := (by rw [show uN1 tn k (uNd tn k) (j + 1) = uN1 tn k (uNd tn k) j + (if uNw tn k (j + 1) k then 1 else 0) from rfl, hf, c_10]; rfl)
                      exact ih12 (j + 1) (by omega) (by omega) _ _ e_12 e_13 _ (lv_sub hl [0, 4, 1, 5] rfl)
                    · skip
                      refine n_iconst hx hb 1 dL_nodes_87 (by decide) ?_
                      refine lv_goto (tgt := 92) hx hb dL_nodes_88 (by decide) ?_
                      refine n_iadd (a := uN1 tn k (uNd tn k) j) (b := 1) hx hb dL_nodes_92 ?_
                      refine lv_istore_n (lv' := [(1, .int (nI (uN1 tn k (uNd tn k) j + 1))), (5, .int (nI ie)), (4, .int (bI (uNw tn k (j + 1) ie))), (3, .int (nI (j + 1))), (2, .int (nI k)), (0, .ref at9)]) hx hb dL_nodes_93 rfl hl (by decide) rfl (fun ls hl => ?_)
                      refine lv_iinc (v := nI (j + 1 + 1)) (lv' := [(3, .int (nI (j + 1 + 1))), (1, .int (nI (uN1 tn k (uNd tn k) j + 1))), (5, .int (nI ie)), (4, .int (bI (uNw tn k (j + 1) ie))), (2, .int (nI k)), (0, .ref at9)]) hx hb dL_nodes_94 hl (k := 3) rfl (n_inc (j + 1) 1 rfl) (by decide) rfl (fun ls hl => ?_)
                      refine lv_goto (tgt := 12) hx hb dL_nodes_97 (by decide) ?_
                      have e_14 : (nI (j + 1 + 1)) = nI ((j + 1) + 1) := (by first | rfl | simp [bI, c_2, c_5, c_8, c_11])
                      have e_15 : (nI (uN1 tn k (uNd tn k) j + 1)) = nI (uN1 tn k (uNd tn k) (j + 1)) := (by rw [show uN1 tn k (uNd tn k) (j + 1) = uN1 tn k (uNd tn k) j + (if uNw tn k (j + 1) k then 1 else 0) from rfl, hf, c_11]; rfl)
                      exact ih12 (j + 1) (by omega) (by omega) _ _ e_14 e_15 _ (lv_sub hl [0, 4, 1, 5] rfl)
                  · skip
                    refine lv_iload hx hb dL_nodes_34 (lv_at hl 1 rfl) ?_
                    refine b_if_eq (b := uNw tn k (j + 1) ie) (tgt := 81) hx hb dL_nodes_36 (by decide) (fun c_16 => ?_) (fun c_17 => ?_)
                    · skip
                      have hf : uNw tn k (j + 1) k = uNw tn k (j + 1) ie := (by rcases Nat.lt_or_ge ie k with h9 | h9; exact (by first | exact (uNw_f c_16 k hk1).trans (c_16).symm | (exfalso; omega)); exact congrArg _ (by omega))
                      refine lv_iload_n hx hb dL_nodes_81 rfl (lv_at hl 4 rfl) ?_
                      refine lv_iload hx hb dL_nodes_82 (lv_at hl 1 rfl) ?_
                      refine b_if_eq (b := uNw tn k (j + 1) ie) (tgt := 91) hx hb dL_nodes_84 (by decide) (fun c_18 => ?_) (fun c_19 => ?_)
                      · skip
                        refine n_iconst hx hb 0 dL_nodes_91 (by decide) ?_
                        refine n_iadd (a := uN1 tn k (uNd tn k) j) (b := 0) hx hb dL_nodes_92 ?_
                        refine n_top (y := nI (uN1 tn k (uNd tn k) j)) rfl ?_
                        refine lv_istore_n (lv' := [(1, .int (nI (uN1 tn k (uNd tn k) j))), (5, .int (nI ie)), (4, .int (bI (uNw tn k (j + 1) ie))), (3, .int (nI (j + 1))), (2, .int (nI k)), (0, .ref at9)]) hx hb dL_nodes_93 rfl hl (by decide) rfl (fun ls hl => ?_)
                        refine lv_iinc (v := nI (j + 1 + 1)) (lv' := [(3, .int (nI (j + 1 + 1))), (1, .int (nI (uN1 tn k (uNd tn k) j))), (5, .int (nI ie)), (4, .int (bI (uNw tn k (j + 1) ie))), (2, .int (nI k)), (0, .ref at9)]) hx hb dL_nodes_94 hl (k := 3) rfl (n_inc (j + 1) 1 rfl) (by decide) rfl (fun ls hl => ?_)
                        refine lv_goto (tgt := 12) hx hb dL_nodes_97 (by decide) ?_
                        have e_20 : (nI (j + 1 + 1)) = nI ((j + 1) + 1) := (by first | rfl | simp [bI, c_2, c_5, c_9, c_16, c_18])
                        have e_21 : (nI (uN1 tn k (uNd tn k) j)) = nI (uN1 tn k (uNd tn k) (j + 1)) := (by rw [show uN1 tn k (uNd tn k) (j + 1) = uN1 tn k (uNd tn k) j + (if uNw tn k (j + 1) k then 1 else 0) from rfl, hf, c_18]; rfl)
                        exact ih12 (j + 1) (by omega) (by omega) _ _ e_20 e_21 _ (lv_sub hl [0, 4, 1, 5] rfl)
                      · skip
                        refine n_iconst hx hb 1 dL_nodes_87 (by decide) ?_
                        refine lv_goto (tgt := 92) hx hb dL_nodes_88 (by decide) ?_
                        refine n_iadd (a := uN1 tn k (uNd tn k) j) (b := 1) hx hb dL_nodes_92 ?_
                        refine lv_istore_n (lv' := [(1, .int (nI (uN1 tn k (uNd tn k) j + 1))), (5, .int (nI ie)), (4, .int (bI (uNw tn k (j + 1) ie))), (3, .int (nI (j + 1))), (2, .int (nI k)), (0, .ref at9)]) hx hb dL_nodes_93 rfl hl (by decide) rfl (fun ls hl => ?_)
                        refine lv_iinc (v := nI (j + 1 + 1)) (lv' := [(3, .int (nI (j + 1 + 1))), (1, .int (nI (uN1 tn k (uNd tn k) j + 1))), (5, .int (nI ie)), (4, .int (bI (uNw tn k (j + 1) ie))), (2, .int (nI k)), (0, .ref at9)]) hx hb dL_nodes_94 hl (k := 3) rfl (n_inc (j + 1) 1 rfl) (by decide) rfl (fun ls hl => ?_)
                        refine lv_goto (tgt := 12) hx hb dL_nodes_97 (by decide) ?_
                        have e_22 : (nI (j + 1 + 1)) = nI ((j + 1) + 1) := (by first | rfl | simp [bI, c_2, c_5, c_9, c_16, c_19])
                        have e_23 : (nI (uN1 tn k (uNd tn k) j + 1)) = nI (uN1 tn k (uNd tn k) (j + 1)) := (by rw [show uN1 tn k (uNd tn k) (j + 1) = uN1 tn k (uNd tn k) j + (if uNw tn k (j + 1) k then 1 else 0) from rfl, hf, c_19]; rfl)
                        exact ih12 (j + 1) (by omega) (by omega) _ _ e_22 e_23 _ (lv_sub hl [0, 4, 1, 5] rfl)
                    · skip
                      have het := htn9 ie (by omega)
                      have hme := uMy_9 het
                      have hs1 := uSh_31 (k := j + 1) (by omega) (tn ie)
                      have hs2 := uSh_31 (k := j + 1) (by omega) (tn k)
                      refine lv_aload_n hx hb dL_nodes_39 rfl (lv_at hl 5 rfl) ?_
                      refine lv_iload hx hb dL_nodes_40 (lv_at hl 0 rfl) ?_
                      refine n_iald hx hb hK hP 0 0 rfl rfl ie (by omega) (by decide) dL_nodes_42 ?_
                      refine n_top (y := nI (tn ie)) (htn _ (by omega)) ?_
                      refine k_roS (As := [.int (nI (tn ie))]) (rest := []) (wc := []) (d := 0) (v := nI (uMy (tn ie))) cx (c_L_many l G T A (tn ie) (by omega)) (va_cwS 1 hts gL_nodes_L_many rfl rfl rfl (by decide +kernel) ⟨Nat.le_of_ble_eq_true rfl, Nat.le_of_ble_eq_true rfl⟩) (hP.sub (ws' := []) [] rfl) hK hE rfl hl.1 rfl (Nat.le_of_ble_eq_true rfl) dL_nodes_43 ⟨Nat.le_of_ble_eq_true rfl, Nat.le_of_ble_eq_true rfl⟩ ?_
                      refine lv_iload_n hx hb dL_nodes_46 rfl (lv_at hl 2 rfl) ?_
                      have J_24 : ∀ y9 : Int32, y9 = (bI (uNw tn k (j + 1) (ie + 1))) → W p l e (headSpec wsL_nodes (rmD 2 0 0)).room s m args below meth c s.heap [] 0 0 Q0 (F0 m 73 ls (.int y9 :: [])) := by
                        intro y9 hy9
                        subst hy9
                        refine lv_istore (lv' := [(4, .int (bI (uNw tn k (j + 1) (ie + 1)))), (5, .int (nI ie)), (3, .int (nI (j + 1))), (2, .int (nI k)), (1, .int (nI (uN1 tn k (uNd tn k) j))), (0, .ref at9)]) hx hb dL_nodes_73 hl (by decide) rfl (fun ls hl => ?_)
                        refine lv_iinc (v := nI (ie + 1)) (lv' := [(5, .int (nI (ie + 1))), (4, .int (bI (uNw tn k (j + 1) (ie + 1)))), (3, .int (nI (j + 1))), (2, .int (nI k)), (1, .int (nI (uN1 tn k (uNd tn k) j))), (0, .ref at9)]) hx hb dL_nodes_75 hl (k := 1) rfl (n_inc ie 1 rfl) (by decide) rfl (fun ls hl => ?_)
                        refine lv_goto (tgt := 28) hx hb dL_nodes_78 (by decide) ?_
                        exact ih28 (ie + 1) (by omega) (by omega) _ _ rfl rfl _ (lv_sub hl [0, 1, 2, 3, 4, 5] rfl)
                      refine n_icmp_lt (a := uMy (tn ie)) (b := j + 1) (tgt := 68) hx hb (by omega) (by omega) dL_nodes_47 (by decide) (fun c_25 => ?_) (fun c_26 => ?_)
                      · skip
                        refine n_iconst hx hb 1 dL_nodes_68 (by decide) ?_
                        refine lv_goto (tgt := 73) hx hb dL_nodes_69 (by decide) ?_
                        exact J_24 _ (by rw [show uNw tn k (j + 1) (ie + 1) = (uNw tn k (j + 1) ie && uNb tn k (j + 1) ie) from rfl, ‹uNw tn k (j + 1) ie = true›, Bool.true_and]; unfold uNb; first | exact bt1 (by first | exact Or.inl (by omega) | exact Or.inr (by assumption)) | exact bt0 (fun h9 => h9.elim (fun h9 => by omega) (fun h9 => h9 (by assumption))))
                      · skip
                        refine lv_aload_n hx hb dL_nodes_50 rfl (lv_at hl 5 rfl) ?_
                        refine lv_iload hx hb dL_nodes_51 (lv_at hl 0 rfl) ?_
                        refine n_iald hx hb hK hP 0 0 rfl rfl ie (by omega) (by decide) dL_nodes_53 ?_
                        refine n_top (y := nI (tn ie)) (htn _ (by omega)) ?_
                        refine lv_iload_n hx hb dL_nodes_54 rfl (lv_at hl 2 rfl) ?_
                        refine k_roS (As := [.int (nI (tn ie)), .int (nI (j + 1))]) (rest := []) (wc := []) (d := 1) (v := nI (uSh (tn ie) (j + 1))) cx (c_L_shape l G T A (tn ie) (j + 1) (by omega) (by omega)) (va_cwS 2 hts gL_nodes_L_shape rfl rfl rfl (by decide +kernel) ⟨Nat.le_of_ble_eq_true rfl, Nat.le_of_ble_eq_true rfl⟩) (hP.sub (ws' := []) [] rfl) hK hE rfl hl.1 rfl (Nat.le_of_ble_eq_true rfl) dL_nodes_55 ⟨Nat.le_of_ble_eq_true rfl, Nat.le_of_ble_eq_true rfl⟩ ?_
                        refine lv_aload_n hx hb dL_nodes_58 rfl (lv_at hl 5 rfl) ?_
                        refine lv_iload_n hx hb dL_nodes_59 rfl (lv_at hl 3 rfl) ?_
                        refine n_iald hx hb hK hP 0 0 rfl rfl k (by omega) (by decide) dL_nodes_60 ?_
                        refine n_top (y := nI (tn k)) (htn _ (by omega)) ?_
                        refine lv_iload_n hx hb dL_nodes_61 rfl (lv_at hl 2 rfl) ?_
                        refine k_roS (As := [.int (nI (tn k)), .int (nI (j + 1))]) (rest := [.int (nI (uSh (tn ie) (j + 1)))]) (wc := []) (d := 1) (v := nI (uSh (tn k) (j + 1))) cx (c_L_shape l G T A (tn k) (j + 1) (by omega) (by omega)) (va_cwS 2 hts gL_nodes_L_shape rfl rfl rfl (by decide +kernel) ⟨Nat.le_of_ble_eq_true rfl, Nat.le_of_ble_eq_true rfl⟩) (hP.sub (ws' := []) [] rfl) hK hE rfl hl.1 rfl (Nat.le_of_ble_eq_true rfl) dL_nodes_62 ⟨Nat.le_of_ble_eq_true rfl, Nat.le_of_ble_eq_true rfl⟩ ?_
                        refine n_icmp_eq (a := uSh (tn ie) (j + 1)) (b := uSh (tn k) (j + 1)) (tgt := 72) hx hb (by omega) (by omega) dL_nodes_65 (by decide) (fun c_27 => ?_) (fun c_28 => ?_)
                        · skip
                          refine n_iconst hx hb 0 dL_nodes_72 (by decide) ?_
                          exact J_24 _ (by rw [show uNw tn k (j + 1) (ie + 1) = (uNw tn k (j + 1) ie && uNb tn k (j + 1) ie) from rfl, ‹uNw tn k (j + 1) ie = true›, Bool.true_and]; unfold uNb; first | exact bt1 (by first | exact Or.inl (by omega) | exact Or.inr (by assumption)) | exact bt0 (fun h9 => h9.elim (fun h9 => by omega) (fun h9 => h9 (by assumption))))
                        · skip
                          refine n_iconst hx hb 1 dL_nodes_68 (by decide) ?_
                          refine lv_goto (tgt := 73) hx hb dL_nodes_69 (by decide) ?_
                          exact J_24 _ (by rw [show uNw tn k (j + 1) (ie + 1) = (uNw tn k (j + 1) ie && uNb tn k (j + 1) ie) from rfl, ‹uNw tn k (j + 1) ie = true›, Bool.true_and]; unfold uNb; first | exact bt1 (by first | exact Or.inl (by omega) | exact Or.inr (by assumption)) | exact bt0 (fun h9 => h9.elim (fun h9 => by omega) (fun h9 => h9 (by assumption))))
              exact L28_i_7 (k + 1) 0 (by omega) (by omega) _ _ rfl rfl _ (lv_sub hl [0, 1, 2, 3, 4, 5] rfl)
        exact L12_i_3 (uMy (tn k) + 1) 0 (by omega) (by omega) _ _ rfl rfl _ (lv_sub hl [0, 1, 2, 3] rfl)
  exact L4 (20 + 1) 0 (by omega) (by omega) _ _ rfl rfl _ (lv_sub hl [0, 1, 2] rfl)
set_option maxHeartbeats 4000000 in
set_option maxRecDepth 100000 in
theorem c_L_floors (l : Launch) (G : va_G) (T : Nat → ClassId) (A : Nat → Prop) (aq : Nat) (fq : Nat → Int32) (f0 : Nat) (hf0 : f0 < 3) : RO l yL_floors wsL_floors 0 G T A ([(aq, .inl (T 0, 12, .inl fq))]) [.int (nI f0), .ref aq] (vFl fq f0) := by
  refine Met.ofW (cc := cL_floors) (maxL := 8) (ret := (some .int)) (by decide) rfl ?_
  intro p e s m args below meth c s₁ B hml hv
  obtain ⟨ha, hP, hK, hE⟩ := hv
  have hx := B.exec
  have hb := B.bytes
  have hr := B.returns
  have hlocks := B.notSynchronized
  have hts := atoms_spec (ws := wsL_floors) B.pre
  have hown : s.vm.findClass RL = some m.cls := findClass_of_methodNamed B.named
  have cx : CallFix p m c cL_floors 8 s args wsL_floors RL := ⟨hx, hb, hml, hown, hts⟩
  refine w_entry ha (Nat.le_of_ble_eq_true rfl) (fun ls hl => ?_)
  refine w_q (fun Q0 hQ => ?_)
  have hl : lv_has ls 8 [(0, .int (nI f0)), (1, .ref aq)] := hl
  have hP : va_P G vwCl [(aq, .inl (T 0, 12, .inl fq))] s.heap := hP
  refine n_iconst hx hb 0 dL_floors_0 (by decide) ?_
  refine lv_istore_n (lv' := [(2, .int (nI 0)), (0, .int (nI f0)), (1, .ref aq)]) hx hb dL_floors_1 rfl hl (by decide) rfl (fun ls hl => ?_)
  refine n_iconst hx hb 1 dL_floors_2 (by decide) ?_
  refine lv_iload_n hx hb dL_floors_3 rfl (lv_at hl 1 rfl) ?_
  refine x_ishl hx hb dL_floors_4 ?_
  refine lv_istore_n (lv' := [(3, .int (iShl (nI 1) (nI f0))), (2, .int (nI 0)), (0, .int (nI f0)), (1, .ref aq)]) hx hb dL_floors_5 rfl hl (by decide) rfl (fun ls hl => ?_)
  refine n_iconst hx hb 0 dL_floors_6 (by decide) ?_
  refine lv_istore (lv' := [(4, .int (nI 0)), (3, .int (iShl (nI 1) (nI f0))), (2, .int (nI 0)), (0, .int (nI f0)), (1, .ref aq)]) hx hb dL_floors_7 hl (by decide) rfl (fun ls hl => ?_)
  have L9 : ∀ (n9 k : Nat) (hk1 : k ≤ 4) (hk2 : 4 - k < n9) (x4 : Int32) (x3 : Int32) (x2 : Int32) (hx4 : x4 = nI k) (hx3 : x3 = (vFn (fq 2) (fq 3) f0 k).2) (hx2 : x2 = (vFn (fq 2) (fq 3) f0 k).1) (ls : Array Slot) (hl : lv_has ls 8 [(4, .int x4), (3, .int x3), (2, .int x2), (0, .int (nI f0)), (1, .ref aq)]), W p l e (headSpec wsL_floors (rmD 0 0 0)).room s m args below meth c s.heap [] 0 0 Q0 (F0 m 9 ls []) := by
    intro n9
    induction n9 with
    | zero => intros; omega
    | succ n9 ih9 =>
      intro k hk1 hk2 x4 x3 x2 hx4 hx3 hx2 ls hl
      subst hx4 hx3 hx2
      refine lv_iload hx hb dL_floors_9 (lv_at hl 0 rfl) ?_
      refine n_iconst hx hb 4 dL_floors_11 (by decide) ?_
      refine n_icmp_ge (a := k) (b := 4) (tgt := 110) hx hb (by omega) (by decide) dL_floors_12 (by decide) (fun c_1 => ?_) (fun c_2 => ?_)
      · skip
        refine lv_iload_n hx hb dL_floors_110 rfl (lv_at hl 2 rfl) ?_
        subst hQ
        exact e_ro hx hb hr hlocks (by rw [show k = 4 from (by omega)]; rfl) dL_floors_111
      · skip
        refine n_iconst hx hb 0 dL_floors_15 (by decide) ?_
        refine lv_istore (lv' := [(5, .int (nI 0)), (4, .int (nI k)), (3, .int ((vFn (fq 2) (fq 3) f0 k).2)), (2, .int ((vFn (fq 2) (fq 3) f0 k).1)), (0, .int (nI f0)), (1, .ref aq)]) hx hb dL_floors_16 hl (by decide) rfl (fun ls hl => ?_)
        have L18_i_3 : ∀ (n9 f : Nat) (hk1 : f ≤ 3) (hk2 : 3 - f < n9) (x5 : Int32) (x2 : Int32) (hx5 : x5 = nI f) (hx2 : x2 = vFf (fq 3) (vFn (fq 2) (fq 3) f0 k).2 (vFn (fq 2) (fq 3) f0 k).1 f) (ls : Array Slot) (hl : lv_has ls 8 [(5, .int x5), (4, .int (nI k)), (3, .int ((vFn (fq 2) (fq 3) f0 k).2)), (2, .int x2), (0, .int (nI f0)), (1, .ref aq)]), W p l e (headSpec wsL_floors (rmD 0 0 0)).room s m args below meth c s.heap [] 0 0 Q0 (F0 m 18 ls []) := by
          intro n9
          induction n9 with
          | zero => intros; omega
          | succ n9 ih18 =>
            intro f hk1 hk2 x5 x2 hx5 hx2 ls hl
            subst hx5 hx2
            refine lv_iload hx hb dL_floors_18 (lv_at hl 0 rfl) ?_
            refine n_iconst hx hb 3 dL_floors_20 (by decide) ?_
            refine n_icmp_ge (a := f) (b := 3) (tgt := 96) hx hb (by omega) (by decide) dL_floors_21 (by decide) (fun c_4 => ?_) (fun c_5 => ?_)
            · skip
              refine lv_iload_n hx hb dL_floors_96 rfl (lv_at hl 2 rfl) ?_
              refine lv_iload_n hx hb dL_floors_97 rfl (lv_at hl 3 rfl) ?_
              refine lv_aload_n hx hb dL_floors_98 rfl (lv_at hl 5 rfl) ?_
              refine n_iconst hx hb 2 dL_floors_99 (by decide) ?_
              refine n_iald hx hb hK hP 0 0 rfl rfl 2 (by decide) (by decide) dL_floors_100 ?_
              refine lv_iand hx hb dL_floors_101 ?_
              refine lv_ior hx hb dL_floors_102 ?_
              refine lv_istore_n (lv' := [(3, .int ((vFn (fq 2) (fq 3) f0 k).2 ||| ((vFf (fq 3) (vFn (fq 2) (fq 3) f0 k).2 (vFn (fq 2) (fq 3) f0 k).1 f) &&& (fq 2)))), (5, .int (nI f)), (4, .int (nI k)), (2, .int (vFf (fq 3) (vFn (fq 2) (fq 3) f0 k).2 (vFn (fq 2) (fq 3) f0 k).1 f)), (0, .int (nI f0)), (1, .ref aq)]) hx hb dL_floors_103 rfl hl (by decide) rfl (fun ls hl => ?_)
              refine lv_iinc (v := nI (k + 1)) (lv' := [(4, .int (nI (k + 1))), (3, .int ((vFn (fq 2) (fq 3) f0 k).2 ||| ((vFf (fq 3) (vFn (fq 2) (fq 3) f0 k).2 (vFn (fq 2) (fq 3) f0 k).1 f) &&& (fq 2)))), (5, .int (nI f)), (2, .int (vFf (fq 3) (vFn (fq 2) (fq 3) f0 k).2 (vFn (fq 2) (fq 3) f0 k).1 f)), (0, .int (nI f0)), (1, .ref aq)]) hx hb dL_floors_104 hl (k := 2) rfl (n_inc k 1 rfl) (by decide) rfl (fun ls hl => ?_)
              refine lv_goto (tgt := 9) hx hb dL_floors_107 (by decide) ?_
              have e_6 : ((vFn (fq 2) (fq 3) f0 k).2 ||| ((vFf (fq 3) (vFn (fq 2) (fq 3) f0 k).2 (vFn (fq 2) (fq 3) f0 k).1 f) &&& (fq 2))) = (vFn (fq 2) (fq 3) f0 (k + 1)).2 := (by rw [show f = 3 from (by omega)]; rfl)
              have e_7 : (vFf (fq 3) (vFn (fq 2) (fq 3) f0 k).2 (vFn (fq 2) (fq 3) f0 k).1 f) = (vFn (fq 2) (fq 3) f0 (k + 1)).1 := (by rw [show f = 3 from (by omega)]; rfl)
              exact ih9 (k + 1) (by omega) (by omega) _ _ _ rfl e_6 e_7 _ (lv_sub hl [0, 1, 3, 4, 5] rfl)
            · skip
              refine n_iconst hx hb 0 dL_floors_24 (by decide) ?_
              refine lv_istore (lv' := [(6, .int (nI 0)), (5, .int (nI f)), (4, .int (nI k)), (3, .int ((vFn (fq 2) (fq 3) f0 k).2)), (2, .int (vFf (fq 3) (vFn (fq 2) (fq 3) f0 k).2 (vFn (fq 2) (fq 3) f0 k).1 f)), (0, .int (nI f0)), (1, .ref aq)]) hx hb dL_floors_25 hl (by decide) rfl (fun ls hl => ?_)
              have L27_i_8 : ∀ (n9 ie : Nat) (hk1 : ie ≤ 3) (hk2 : 3 - ie < n9) (x6 : Int32) (x2 : Int32) (hx6 : x6 = nI ie) (hx2 : x2 = vFe (fq 3) (vFn (fq 2) (fq 3) f0 k).2 f (vFf (fq 3) (vFn (fq 2) (fq 3) f0 k).2 (vFn (fq 2) (fq 3) f0 k).1 f) ie) (ls : Array Slot) (hl : lv_has ls 8 [(6, .int x6), (5, .int (nI f)), (4, .int (nI k)), (3, .int ((vFn (fq 2) (fq 3) f0 k).2)), (2, .int x2), (0, .int (nI f0)), (1, .ref aq)]), W p l e (headSpec wsL_floors (rmD 0 0 0)).room s m args below meth c s.heap [] 0 0 Q0 (F0 m 27 ls []) := by
                intro n9
                induction n9 with
                | zero => intros; omega
                | succ n9 ih27 =>
                  intro ie hk1 hk2 x6 x2 hx6 hx2 ls hl
                  subst hx6 hx2
                  refine lv_iload hx hb dL_floors_27 (lv_at hl 0 rfl) ?_
                  refine n_iconst hx hb 3 dL_floors_29 (by decide) ?_
                  refine n_icmp_ge (a := ie) (b := 3) (tgt := 90) hx hb (by omega) (by decide) dL_floors_30 (by decide) (fun c_9 => ?_) (fun c_10 => ?_)
                  · skip
                    refine lv_iinc (v := nI (f + 1)) (lv' := [(5, .int (nI (f + 1))), (6, .int (nI ie)), (4, .int (nI k)), (3, .int ((vFn (fq 2) (fq 3) f0 k).2)), (2, .int (vFe (fq 3) (vFn (fq 2) (fq 3) f0 k).2 f (vFf (fq 3) (vFn (fq 2) (fq 3) f0 k).2 (vFn (fq 2) (fq 3) f0 k).1 f) ie)), (0, .int (nI f0)), (1, .ref aq)]) hx hb dL_floors_90 hl (k := 1) rfl (n_inc f 1 rfl) (by decide) rfl (fun ls hl => ?_)
                    refine lv_goto (tgt := 18) hx hb dL_floors_93 (by decide) ?_
                    have e_11 : (vFe (fq 3) (vFn (fq 2) (fq 3) f0 k).2 f (vFf (fq 3) (vFn (fq 2) (fq 3) f0 k).2 (vFn (fq 2) (fq 3) f0 k).1 f) ie) = vFf (fq 3) (vFn (fq 2) (fq 3) f0 k).2 (vFn (fq 2) (fq 3) f0 k).1 (f + 1) := (by rw [show ie = 3 from (by omega)]; rfl)
                    exact ih18 (f + 1) (by omega) (by omega) _ _ rfl e_11 _ (lv_sub hl [0, 2, 3, 4, 5, 6] rfl)
                  · skip
                    refine lv_iload hx hb dL_floors_33 (lv_at hl 1 rfl) ?_
                    refine lv_iload hx hb dL_floors_35 (lv_at hl 0 rfl) ?_
                    have J_12 : ∀ y9 : Int32, y9 = (nI (vAp ie f)) → W p l e (headSpec wsL_floors (rmD 0 0 0)).room s m args below meth c s.heap [] 0 0 Q0 (F0 m 53 ls (.int y9 :: [])) := by
                      intro y9 hy9
                      subst hy9
                      have hap := vAp_lt (e := ie) (f := f) (by omega) (by omega)
                      refine lv_istore (lv' := [(7, .int (nI (vAp ie f))), (6, .int (nI ie)), (5, .int (nI f)), (4, .int (nI k)), (3, .int ((vFn (fq 2) (fq 3) f0 k).2)), (2, .int (vFe (fq 3) (vFn (fq 2) (fq 3) f0 k).2 f (vFf (fq 3) (vFn (fq 2) (fq 3) f0 k).2 (vFn (fq 2) (fq 3) f0 k).1 f) ie)), (0, .int (nI f0)), (1, .ref aq)]) hx hb dL_floors_53 hl (by decide) rfl (fun ls hl => ?_)
                      refine lv_iload_n hx hb dL_floors_55 rfl (lv_at hl 5 rfl) ?_
                      refine lv_iload_n hx hb dL_floors_56 rfl (lv_at hl 4 rfl) ?_
                      refine lv_iload hx hb dL_floors_57 (lv_at hl 1 rfl) ?_
                      refine x_ishr hx hb dL_floors_59 ?_
                      refine n_iconst hx hb 1 dL_floors_60 (by decide) ?_
                      refine lv_iand hx hb dL_floors_61 ?_
                      refine n_iconst hx hb 1 dL_floors_62 (by decide) ?_
                      have J_13 : ∀ y9 : Int32, y9 = (vFc (fq 3) (vFn (fq 2) (fq 3) f0 k).2 f ie) → W p l e (headSpec wsL_floors (rmD 0 0 0)).room s m args below meth c s.heap [] 0 0 Q0 (F0 m 82 ls (.int y9 :: .int (vFe (fq 3) (vFn (fq 2) (fq 3) f0 k).2 f (vFf (fq 3) (vFn (fq 2) (fq 3) f0 k).2 (vFn (fq 2) (fq 3) f0 k).1 f) ie) :: [])) := by
                        intro y9 hy9
                        subst hy9
                        refine lv_ior hx hb dL_floors_82 ?_
                        refine lv_istore_n (lv' := [(2, .int ((vFe (fq 3) (vFn (fq 2) (fq 3) f0 k).2 f (vFf (fq 3) (vFn (fq 2) (fq 3) f0 k).2 (vFn (fq 2) (fq 3) f0 k).1 f) ie) ||| (vFc (fq 3) (vFn (fq 2) (fq 3) f0 k).2 f ie))), (7, .int (nI (vAp ie f))), (6, .int (nI ie)), (5, .int (nI f)), (4, .int (nI k)), (3, .int ((vFn (fq 2) (fq 3) f0 k).2)), (0, .int (nI f0)), (1, .ref aq)]) hx hb dL_floors_83 rfl hl (by decide) rfl (fun ls hl => ?_)
                        refine lv_iinc (v := nI (ie + 1)) (lv' := [(6, .int (nI (ie + 1))), (2, .int ((vFe (fq 3) (vFn (fq 2) (fq 3) f0 k).2 f (vFf (fq 3) (vFn (fq 2) (fq 3) f0 k).2 (vFn (fq 2) (fq 3) f0 k).1 f) ie) ||| (vFc (fq 3) (vFn (fq 2) (fq 3) f0 k).2 f ie))), (7, .int (nI (vAp ie f))), (5, .int (nI f)), (4, .int (nI k)), (3, .int ((vFn (fq 2) (fq 3) f0 k).2)), (0, .int (nI f0)), (1, .ref aq)]) hx hb dL_floors_84 hl (k := 2) rfl (n_inc ie 1 rfl) (by decide) rfl (fun ls hl => ?_)
                        refine lv_goto (tgt := 27) hx hb dL_floors_87 (by decide) ?_
                        have e_14 : ((vFe (fq 3) (vFn (fq 2) (fq 3) f0 k).2 f (vFf (fq 3) (vFn (fq 2) (fq 3) f0 k).2 (vFn (fq 2) (fq 3) f0 k).1 f) ie) ||| (vFc (fq 3) (vFn (fq 2) (fq 3) f0 k).2 f ie)) = vFe (fq 3) (vFn (fq 2) (fq 3) f0 k).2 f (vFf (fq 3) (vFn (fq 2) (fq 3) f0 k).2 (vFn (fq 2) (fq 3) f0 k).1 f) (ie + 1) := rfl
                        exact ih27 (ie + 1) (by omega) (by omega) _ _ rfl e_14 _ (lv_sub hl [0, 3, 4, 5, 1, 6, 7] rfl)
                      refine lv_icmp_ne (tgt := 81) hx hb dL_floors_63 (by decide) (fun c_15 => ?_) (fun c_16 => ?_)
                      · skip
                        refine n_iconst hx hb 0 dL_floors_81 (by decide) ?_
                        exact J_13 _ (by unfold vFc; first | rw [if_pos ⟨by assumption, by assumption⟩] | rw [if_neg (by rintro ⟨h8, h9⟩; first | exact absurd h8 c_15 | exact absurd c_15 h9)])
                      · skip
                        refine lv_iload hx hb dL_floors_66 (lv_at hl 0 rfl) ?_
                        refine lv_aload_n hx hb dL_floors_68 rfl (lv_at hl 7 rfl) ?_
                        refine n_iconst hx hb 3 dL_floors_69 (by decide) ?_
                        refine n_iald hx hb hK hP 0 0 rfl rfl 3 (by decide) (by decide) dL_floors_70 ?_
                        refine lv_icmp_gt (tgt := 81) hx hb dL_floors_71 (by decide) (fun c_17 => ?_) (fun c_18 => ?_)
                        · skip
                          refine n_iconst hx hb 0 dL_floors_81 (by decide) ?_
                          exact J_13 _ (by unfold vFc; first | rw [if_pos ⟨by assumption, by assumption⟩] | rw [if_neg (by rintro ⟨h8, h9⟩; first | exact absurd h8 c_17 | exact absurd c_17 h9)])
                        · skip
                          refine n_iconst hx hb 1 dL_floors_74 (by decide) ?_
                          refine lv_iload hx hb dL_floors_75 (lv_at hl 2 rfl) ?_
                          refine x_ishl hx hb dL_floors_77 ?_
                          refine lv_goto (tgt := 82) hx hb dL_floors_78 (by decide) ?_
                          exact J_13 _ (by unfold vFc; first | rw [if_pos ⟨by assumption, by assumption⟩] | rw [if_neg (by rintro ⟨h8, h9⟩; first | exact absurd h8 c_18 | exact absurd c_18 h9)])
                    refine n_icmp_le (a := f) (b := ie) (tgt := 48) hx hb (by omega) (by omega) dL_floors_37 (by decide) (fun c_19 => ?_) (fun c_20 => ?_)
                    · skip
                      refine lv_iload hx hb dL_floors_48 (lv_at hl 0 rfl) ?_
                      refine lv_iload hx hb dL_floors_50 (lv_at hl 1 rfl) ?_
                      refine n_isub (a := ie) (b := f) hx hb (by omega) dL_floors_52 ?_
                      exact J_12 _ (by unfold vAp; first | rw [if_pos (by omega)] | rw [if_neg (by omega)])
                    · skip
                      refine lv_iload hx hb dL_floors_40 (lv_at hl 1 rfl) ?_
                      refine lv_iload hx hb dL_floors_42 (lv_at hl 0 rfl) ?_
                      refine n_isub (a := f) (b := ie) hx hb (by omega) dL_floors_44 ?_
                      refine lv_goto (tgt := 53) hx hb dL_floors_45 (by decide) ?_
                      exact J_12 _ (by unfold vAp; first | rw [if_pos (by omega)] | rw [if_neg (by omega)])
              exact L27_i_8 (3 + 1) 0 (by omega) (by omega) _ _ rfl rfl _ (lv_sub hl [0, 1, 2, 3, 4, 5, 6] rfl)
        exact L18_i_3 (3 + 1) 0 (by omega) (by omega) _ _ rfl rfl _ (lv_sub hl [0, 1, 2, 3, 4, 5] rfl)
  exact L9 (4 + 1) 0 (by omega) (by omega) _ _ _ rfl rfl rfl _ (lv_sub hl [0, 1, 2, 3, 4] rfl)
set_option maxHeartbeats 4000000 in
set_option maxRecDepth 100000 in
theorem c_L_brings (l : Launch) (G : va_G) (T : Nat → ClassId) (A : Nat → Prop) (aq : Nat) (fq : Nat → Int32) (ar : Nat) (fr : Nat → Int32) (ab : Nat) (fb : Nat → Int32) (r : Nat) (mm : Nat) (w : Nat) (hr6 : r < 6) (hm20 : mm < 20) (hw4 : w < 4) : RO l yL_brings wsL_brings 1 G T A ([(aq, .inl (T 0, 12, .inl fq))] ++ [(ar, .inl (T 0, 30, .inl fr))] ++ [(ab, .inl (T 0, 3, .inl fb))]) [.int (nI r), .int (nI mm), .int (nI w), .ref aq, .ref ar, .ref ab] (vBr fq fr fb r mm w) := by
  refine Met.ofW (cc := cL_brings) (maxL := 10) (ret := (some .int)) (by decide) rfl ?_
  intro p e s m args below meth c s₁ B hml hv
  obtain ⟨ha, hP, hK, hE⟩ := hv
  have hx := B.exec
  have hb := B.bytes
  have hr := B.returns
  have hlocks := B.notSynchronized
  have hts := atoms_spec (ws := wsL_brings) B.pre
  have hown : s.vm.findClass RL = some m.cls := findClass_of_methodNamed B.named
  have cx : CallFix p m c cL_brings 10 s args wsL_brings RL := ⟨hx, hb, hml, hown, hts⟩
  refine w_entry ha (Nat.le_of_ble_eq_true rfl) (fun ls hl => ?_)
  refine w_q (fun Q0 hQ => ?_)
  have hl : lv_has ls 10 [(0, .int (nI r)), (1, .int (nI mm)), (2, .int (nI w)), (3, .ref aq), (4, .ref ar), (5, .ref ab)] := hl
  have hP : va_P G vwCl [(aq, .inl (T 0, 12, .inl fq)), (ar, .inl (T 0, 30, .inl fr)), (ab, .inl (T 0, 3, .inl fb))] s.heap := hP
  refine lv_iload_n hx hb dL_brings_0 rfl (lv_at hl 0 rfl) ?_
  refine n_iconst hx hb 2 dL_brings_1 (by decide) ?_
  refine n_idiv (a := r) (b := 2) hx hb (by omega) (by decide) (by decide) dL_brings_2 ?_
  refine lv_aload_n hx hb dL_brings_3 rfl (lv_at hl 3 rfl) ?_
  refine k_roS (As := [.int (nI (r / 2)), .ref aq]) (rest := []) (wc := [(aq, .inl (T 0, 12, .inl fq))]) (d := 0) (v := vFl fq (r / 2)) cx (c_L_floors l G T A aq fq (r / 2) (by omega)) (va_cwS 2 hts gL_brings_L_floors rfl rfl rfl (by decide +kernel) ⟨Nat.le_of_ble_eq_true rfl, Nat.le_of_ble_eq_true rfl⟩) (hP.sub (ws' := [(aq, .inl (T 0, 12, .inl fq))]) [0] rfl) hK hE rfl hl.1 rfl (Nat.le_of_ble_eq_true rfl) dL_brings_4 ⟨Nat.le_of_ble_eq_true rfl, Nat.le_of_ble_eq_true rfl⟩ ?_
  refine lv_istore (lv' := [(6, .int (vFl fq (r / 2))), (0, .int (nI r)), (1, .int (nI mm)), (2, .int (nI w)), (3, .ref aq), (4, .ref ar), (5, .ref ab)]) hx hb dL_brings_7 hl (by decide) rfl (fun ls hl => ?_)
  refine n_iconst hx hb 0 dL_brings_9 (by decide) ?_
  refine lv_istore (lv' := [(7, .int (nI 0)), (6, .int (vFl fq (r / 2))), (0, .int (nI r)), (1, .int (nI mm)), (2, .int (nI w)), (3, .ref aq), (4, .ref ar), (5, .ref ab)]) hx hb dL_brings_10 hl (by decide) rfl (fun ls hl => ?_)
  refine lv_iload_n hx hb dL_brings_12 rfl (lv_at hl 4 rfl) ?_
  refine n_iconst hx hb 2 dL_brings_13 (by decide) ?_
  refine n_icmp_ne (a := w) (b := 2) (tgt := 64) hx hb (by omega) (by decide) dL_brings_14 (by decide) (fun c_1 => ?_) (fun c_2 => ?_)
  · skip
    refine n_iconst hx hb 0 dL_brings_64 (by decide) ?_
    refine lv_istore (lv' := [(8, .int (nI 0)), (7, .int (nI 0)), (6, .int (vFl fq (r / 2))), (0, .int (nI r)), (1, .int (nI mm)), (2, .int (nI w)), (3, .ref aq), (4, .ref ar), (5, .ref ab)]) hx hb dL_brings_65 hl (by decide) rfl (fun ls hl => ?_)
    have L67 : ∀ (n9 k : Nat) (hk1 : k ≤ 6) (hk2 : 6 - k < n9) (x8 : Int32) (x7 : Int32) (hx8 : x8 = nI k) (hx7 : x7 = vB1 (vFl fq (r / 2)) fq fr r mm w k) (ls : Array Slot) (hl : lv_has ls 10 [(8, .int x8), (7, .int x7), (6, .int (vFl fq (r / 2))), (0, .int (nI r)), (1, .int (nI mm)), (2, .int (nI w)), (3, .ref aq), (4, .ref ar), (5, .ref ab)]), W p l e (headSpec wsL_brings (rmD 1 0 0)).room s m args below meth c s.heap [] 0 0 Q0 (F0 m 67 ls []) := by
      intro n9
      induction n9 with
      | zero => intros; omega
      | succ n9 ih67 =>
        intro k hk1 hk2 x8 x7 hx8 hx7 ls hl
        subst hx8 hx7
        refine lv_iload hx hb dL_brings_67 (lv_at hl 0 rfl) ?_
        refine lv_bipush (v := nI 6) hx hb dL_brings_69 (by decide) ?_
        refine n_icmp_ge (a := k) (b := 6) (tgt := 167) hx hb (by omega) (by decide) dL_brings_71 (by decide) (fun c_3 => ?_) (fun c_4 => ?_)
        · skip
          refine lv_iload hx hb dL_brings_167 (lv_at hl 1 rfl) ?_
          subst hQ
          exact e_ro hx hb hr hlocks (by unfold vBr; rw [if_neg (by omega), show k = 6 from (by omega)]) dL_brings_169
        · skip
          refine lv_iload hx hb dL_brings_74 (lv_at hl 0 rfl) ?_
          refine lv_iload_n hx hb dL_brings_76 rfl (lv_at hl 3 rfl) ?_
          have J_5 : ∀ y9 : Int32, y9 = (bI (vBi (vFl fq (r / 2)) fr r w k)) → W p l e (headSpec wsL_brings (rmD 1 0 0)).room s m args below meth c s.heap [] 0 0 Q0 (F0 m 118 ls (.int y9 :: [])) := by
            intro y9 hy9
            subst hy9
            refine lv_istore (lv' := [(9, .int (bI (vBi (vFl fq (r / 2)) fr r w k))), (8, .int (nI k)), (7, .int (vB1 (vFl fq (r / 2)) fq fr r mm w k)), (6, .int (vFl fq (r / 2))), (0, .int (nI r)), (1, .int (nI mm)), (2, .int (nI w)), (3, .ref aq), (4, .ref ar), (5, .ref ab)]) hx hb dL_brings_118 hl (by decide) rfl (fun ls hl => ?_)
            refine lv_iload hx hb dL_brings_120 (lv_at hl 2 rfl) ?_
            refine lv_iload hx hb dL_brings_122 (lv_at hl 0 rfl) ?_
            have J_6 : ∀ y9 : Int32, y9 = (vBc (vFl fq (r / 2)) fq fr r mm w k) → W p l e (headSpec wsL_brings (rmD 1 0 0)).room s m args below meth c s.heap [] 0 0 Q0 (F0 m 158 ls (.int y9 :: .int (vB1 (vFl fq (r / 2)) fq fr r mm w k) :: [])) := by
              intro y9 hy9
              subst hy9
              refine lv_ior hx hb dL_brings_158 ?_
              refine lv_istore (lv' := [(7, .int ((vB1 (vFl fq (r / 2)) fq fr r mm w k) ||| (vBc (vFl fq (r / 2)) fq fr r mm w k))), (9, .int (bI (vBi (vFl fq (r / 2)) fr r w k))), (8, .int (nI k)), (6, .int (vFl fq (r / 2))), (0, .int (nI r)), (1, .int (nI mm)), (2, .int (nI w)), (3, .ref aq), (4, .ref ar), (5, .ref ab)]) hx hb dL_brings_159 hl (by decide) rfl (fun ls hl => ?_)
              refine lv_iinc (v := nI (k + 1)) (lv' := [(8, .int (nI (k + 1))), (7, .int ((vB1 (vFl fq (r / 2)) fq fr r mm w k) ||| (vBc (vFl fq (r / 2)) fq fr r mm w k))), (9, .int (bI (vBi (vFl fq (r / 2)) fr r w k))), (6, .int (vFl fq (r / 2))), (0, .int (nI r)), (1, .int (nI mm)), (2, .int (nI w)), (3, .ref aq), (4, .ref ar), (5, .ref ab)]) hx hb dL_brings_161 hl (k := 2) rfl (n_inc k 1 rfl) (by decide) rfl (fun ls hl => ?_)
              refine lv_goto (tgt := 67) hx hb dL_brings_164 (by decide) ?_
              have e_7 : ((vB1 (vFl fq (r / 2)) fq fr r mm w k) ||| (vBc (vFl fq (r / 2)) fq fr r mm w k)) = vB1 (vFl fq (r / 2)) fq fr r mm w (k + 1) := rfl
              exact ih67 (k + 1) (by omega) (by omega) _ _ rfl e_7 _ (lv_sub hl [0, 1, 3, 4, 5, 6, 7, 8, 9] rfl)
            refine b_if_eq (b := vBi (vFl fq (r / 2)) fr r w k) (tgt := 157) hx hb dL_brings_124 (by decide) (fun c_8 => ?_) (fun c_9 => ?_)
            · skip
              refine n_iconst hx hb 0 dL_brings_157 (by decide) ?_
              exact J_6 _ (by unfold vBc; first | (rw [‹vBi (vFl fq (r / 2)) fr r w k = false›, Bool.false_and] <;> rfl) | (rw [‹vBi (vFl fq (r / 2)) fr r w k = true›, Bool.true_and]; unfold vBj; first | (rw [decide_eq_true (show w < 3 ∨ 11 < mm ∧ fr (5 * r) = fq 1 from by first | exact Or.inl (by omega) | exact Or.inr ⟨by omega, by assumption⟩)] <;> rfl) | (rw [decide_eq_false (show ¬ (w < 3 ∨ 11 < mm ∧ fr (5 * r) = fq 1) from fun h9 => h9.elim (fun h9 => by omega) (fun h9 => by first | exact absurd h9.2 (by assumption) | (have h8 := h9.1; omega)))] <;> rfl)))
            · skip
              refine lv_iload_n hx hb dL_brings_127 rfl (lv_at hl 6 rfl) ?_
              refine n_iconst hx hb 3 dL_brings_128 (by decide) ?_
              refine n_icmp_lt (a := w) (b := 3) (tgt := 150) hx hb (by omega) (by decide) dL_brings_129 (by decide) (fun c_10 => ?_) (fun c_11 => ?_)
              · skip
                refine n_iconst hx hb 1 dL_brings_150 (by decide) ?_
                refine lv_iload hx hb dL_brings_151 (lv_at hl 1 rfl) ?_
                refine x_ishl hx hb dL_brings_153 ?_
                refine lv_goto (tgt := 158) hx hb dL_brings_154 (by decide) ?_
                exact J_6 _ (by unfold vBc; first | (rw [‹vBi (vFl fq (r / 2)) fr r w k = false›, Bool.false_and] <;> rfl) | (rw [‹vBi (vFl fq (r / 2)) fr r w k = true›, Bool.true_and]; unfold vBj; first | (rw [decide_eq_true (show w < 3 ∨ 11 < mm ∧ fr (5 * r) = fq 1 from by first | exact Or.inl (by omega) | exact Or.inr ⟨by omega, by assumption⟩)] <;> rfl) | (rw [decide_eq_false (show ¬ (w < 3 ∨ 11 < mm ∧ fr (5 * r) = fq 1) from fun h9 => h9.elim (fun h9 => by omega) (fun h9 => by first | exact absurd h9.2 (by assumption) | (have h8 := h9.1; omega)))] <;> rfl)))
              · skip
                refine lv_iload_n hx hb dL_brings_132 rfl (lv_at hl 5 rfl) ?_
                refine lv_bipush (v := nI 11) hx hb dL_brings_133 (by decide) ?_
                refine n_icmp_le (a := mm) (b := 11) (tgt := 157) hx hb (by omega) (by decide) dL_brings_135 (by decide) (fun c_12 => ?_) (fun c_13 => ?_)
                · skip
                  refine n_iconst hx hb 0 dL_brings_157 (by decide) ?_
                  exact J_6 _ (by unfold vBc; first | (rw [‹vBi (vFl fq (r / 2)) fr r w k = false›, Bool.false_and] <;> rfl) | (rw [‹vBi (vFl fq (r / 2)) fr r w k = true›, Bool.true_and]; unfold vBj; first | (rw [decide_eq_true (show w < 3 ∨ 11 < mm ∧ fr (5 * r) = fq 1 from by first | exact Or.inl (by omega) | exact Or.inr ⟨by omega, by assumption⟩)] <;> rfl) | (rw [decide_eq_false (show ¬ (w < 3 ∨ 11 < mm ∧ fr (5 * r) = fq 1) from fun h9 => h9.elim (fun h9 => by omega) (fun h9 => by first | exact absurd h9.2 (by assumption) | (have h8 := h9.1; omega)))] <;> rfl)))
                · skip
                  refine lv_aload hx hb dL_brings_138 (lv_at hl 8 rfl) ?_
                  refine n_iconst hx hb 5 dL_brings_140 (by decide) ?_
                  refine lv_iload_n hx hb dL_brings_141 rfl (lv_at hl 4 rfl) ?_
                  refine n_imul (a := 5) (b := r) hx hb dL_brings_142 ?_
                  refine n_iald hx hb hK hP 1 0 rfl rfl (5 * r) (by omega) (by decide) dL_brings_143 ?_
                  refine lv_aload_n hx hb dL_brings_144 rfl (lv_at hl 7 rfl) ?_
                  refine n_iconst hx hb 1 dL_brings_145 (by decide) ?_
                  refine n_iald hx hb hK hP 0 0 rfl rfl 1 (by decide) (by decide) dL_brings_146 ?_
                  refine lv_icmp_ne (tgt := 157) hx hb dL_brings_147 (by decide) (fun c_14 => ?_) (fun c_15 => ?_)
                  · skip
                    refine n_iconst hx hb 0 dL_brings_157 (by decide) ?_
                    exact J_6 _ (by unfold vBc; first | (rw [‹vBi (vFl fq (r / 2)) fr r w k = false›, Bool.false_and] <;> rfl) | (rw [‹vBi (vFl fq (r / 2)) fr r w k = true›, Bool.true_and]; unfold vBj; first | (rw [decide_eq_true (show w < 3 ∨ 11 < mm ∧ fr (5 * r) = fq 1 from by first | exact Or.inl (by omega) | exact Or.inr ⟨by omega, by assumption⟩)] <;> rfl) | (rw [decide_eq_false (show ¬ (w < 3 ∨ 11 < mm ∧ fr (5 * r) = fq 1) from fun h9 => h9.elim (fun h9 => by omega) (fun h9 => by first | exact absurd h9.2 (by assumption) | (have h8 := h9.1; omega)))] <;> rfl)))
                  · skip
                    refine n_iconst hx hb 1 dL_brings_150 (by decide) ?_
                    refine lv_iload hx hb dL_brings_151 (lv_at hl 1 rfl) ?_
                    refine x_ishl hx hb dL_brings_153 ?_
                    refine lv_goto (tgt := 158) hx hb dL_brings_154 (by decide) ?_
                    exact J_6 _ (by unfold vBc; first | (rw [‹vBi (vFl fq (r / 2)) fr r w k = false›, Bool.false_and] <;> rfl) | (rw [‹vBi (vFl fq (r / 2)) fr r w k = true›, Bool.true_and]; unfold vBj; first | (rw [decide_eq_true (show w < 3 ∨ 11 < mm ∧ fr (5 * r) = fq 1 from by first | exact Or.inl (by omega) | exact Or.inr ⟨by omega, by assumption⟩)] <;> rfl) | (rw [decide_eq_false (show ¬ (w < 3 ∨ 11 < mm ∧ fr (5 * r) = fq 1) from fun h9 => h9.elim (fun h9 => by omega) (fun h9 => by first | exact absurd h9.2 (by assumption) | (have h8 := h9.1; omega)))] <;> rfl)))
          refine n_icmp_eq (a := k) (b := r) (tgt := 117) hx hb (by omega) (by omega) dL_brings_77 (by decide) (fun c_16 => ?_) (fun c_17 => ?_)
          · skip
            refine n_iconst hx hb 0 dL_brings_117 (by decide) ?_
            exact J_5 _ (by simp [vBi, bI, c_1, c_4, c_16])
          · skip
            refine lv_iload hx hb dL_brings_80 (lv_at hl 2 rfl) ?_
            refine lv_iload hx hb dL_brings_82 (lv_at hl 0 rfl) ?_
            refine n_iconst hx hb 2 dL_brings_84 (by decide) ?_
            refine n_idiv (a := k) (b := 2) hx hb (by omega) (by decide) (by decide) dL_brings_85 ?_
            refine x_ishr hx hb dL_brings_86 ?_
            refine n_iconst hx hb 1 dL_brings_87 (by decide) ?_
            refine lv_iand hx hb dL_brings_88 ?_
            refine n_iconst hx hb 1 dL_brings_89 (by decide) ?_
            refine lv_icmp_ne (tgt := 117) hx hb dL_brings_90 (by decide) (fun c_18 => ?_) (fun c_19 => ?_)
            · skip
              refine n_iconst hx hb 0 dL_brings_117 (by decide) ?_
              exact J_5 _ (by simp [vBi, bI, c_1, c_4, c_17, c_18])
            · skip
              refine lv_iload_n hx hb dL_brings_93 rfl (lv_at hl 5 rfl) ?_
              refine n_if_eq (a := w) (tgt := 113) hx hb (by omega) dL_brings_94 (by decide) (fun c_20 => ?_) (fun c_21 => ?_)
              · skip
                refine n_iconst hx hb 1 dL_brings_113 (by decide) ?_
                refine lv_goto (tgt := 118) hx hb dL_brings_114 (by decide) ?_
                exact J_5 _ (by simp [vBi, bI, c_1, c_4, c_17, c_19, c_20])
              · skip
                refine lv_aload hx hb dL_brings_97 (lv_at hl 7 rfl) ?_
                refine n_iconst hx hb 5 dL_brings_99 (by decide) ?_
                refine lv_iload hx hb dL_brings_100 (lv_at hl 0 rfl) ?_
                refine n_imul (a := 5) (b := k) hx hb dL_brings_102 ?_
                refine n_iald hx hb hK hP 1 0 rfl rfl (5 * k) (by omega) (by decide) dL_brings_103 ?_
                refine lv_aload hx hb dL_brings_104 (lv_at hl 7 rfl) ?_
                refine n_iconst hx hb 5 dL_brings_106 (by decide) ?_
                refine lv_iload_n hx hb dL_brings_107 rfl (lv_at hl 3 rfl) ?_
                refine n_imul (a := 5) (b := r) hx hb dL_brings_108 ?_
                refine n_iald hx hb hK hP 1 0 rfl rfl (5 * r) (by omega) (by decide) dL_brings_109 ?_
                refine lv_icmp_ne (tgt := 117) hx hb dL_brings_110 (by decide) (fun c_22 => ?_) (fun c_23 => ?_)
                · skip
                  refine n_iconst hx hb 0 dL_brings_117 (by decide) ?_
                  exact J_5 _ (by simp [vBi, bI, c_1, c_4, c_17, c_19, c_21, c_22])
                · skip
                  refine n_iconst hx hb 1 dL_brings_113 (by decide) ?_
                  refine lv_goto (tgt := 118) hx hb dL_brings_114 (by decide) ?_
                  exact J_5 _ (by simp [vBi, bI, c_1, c_4, c_17, c_19, c_21, c_23])
    exact L67 (6 + 1) 0 (by omega) (by omega) _ _ rfl rfl _ (lv_sub hl [0, 1, 2, 3, 4, 5, 6, 7, 8] rfl)
  · skip
    refine n_iconst hx hb 0 dL_brings_17 (by decide) ?_
    refine lv_istore (lv' := [(8, .int (nI 0)), (7, .int (nI 0)), (6, .int (vFl fq (r / 2))), (0, .int (nI r)), (1, .int (nI mm)), (2, .int (nI w)), (3, .ref aq), (4, .ref ar), (5, .ref ab)]) hx hb dL_brings_18 hl (by decide) rfl (fun ls hl => ?_)
    have L20 : ∀ (n9 k : Nat) (hk1 : k ≤ 3) (hk2 : 3 - k < n9) (x8 : Int32) (x7 : Int32) (hx8 : x8 = nI k) (hx7 : x7 = vB2 (vFl fq (r / 2)) fq fb mm k) (ls : Array Slot) (hl : lv_has ls 10 [(8, .int x8), (7, .int x7), (6, .int (vFl fq (r / 2))), (0, .int (nI r)), (1, .int (nI mm)), (2, .int (nI w)), (3, .ref aq), (4, .ref ar), (5, .ref ab)]), W p l e (headSpec wsL_brings (rmD 1 0 0)).room s m args below meth c s.heap [] 0 0 Q0 (F0 m 20 ls []) := by
      intro n9
      induction n9 with
      | zero => intros; omega
      | succ n9 ih20 =>
        intro k hk1 hk2 x8 x7 hx8 hx7 ls hl
        subst hx8 hx7
        refine lv_iload hx hb dL_brings_20 (lv_at hl 0 rfl) ?_
        refine n_iconst hx hb 3 dL_brings_22 (by decide) ?_
        refine n_icmp_ge (a := k) (b := 3) (tgt := 61) hx hb (by omega) (by decide) dL_brings_23 (by decide) (fun c_24 => ?_) (fun c_25 => ?_)
        · skip
          refine lv_iload hx hb dL_brings_61 (lv_at hl 1 rfl) ?_
          subst hQ
          exact e_ro hx hb hr hlocks (by unfold vBr; rw [if_pos (by omega), show k = 3 from (by omega)]) dL_brings_63
        · skip
          refine lv_iload hx hb dL_brings_26 (lv_at hl 1 rfl) ?_
          refine lv_iload hx hb dL_brings_28 (lv_at hl 2 rfl) ?_
          refine lv_iload hx hb dL_brings_30 (lv_at hl 0 rfl) ?_
          refine lv_aload_n hx hb dL_brings_32 rfl (lv_at hl 6 rfl) ?_
          refine n_iconst hx hb 0 dL_brings_33 (by decide) ?_
          refine n_iald hx hb hK hP 0 0 rfl rfl 0 (by decide) (by decide) dL_brings_34 ?_
          refine lv_iadd hx hb dL_brings_35 ?_
          refine n_iconst hx hb 3 dL_brings_36 (by decide) ?_
          refine x_irem hx hb (nI_ne0 (by decide) (by decide)) dL_brings_37 ?_
          refine x_ishr hx hb dL_brings_38 ?_
          refine lv_aload hx hb dL_brings_39 (lv_at hl 8 rfl) ?_
          refine lv_iload hx hb dL_brings_41 (lv_at hl 0 rfl) ?_
          refine n_iald hx hb hK hP 2 0 rfl rfl k (by omega) (by decide) dL_brings_43 ?_
          refine lv_iload_n hx hb dL_brings_44 rfl (lv_at hl 4 rfl) ?_
          refine x_ishr hx hb dL_brings_45 ?_
          refine lv_iand hx hb dL_brings_46 ?_
          refine n_iconst hx hb 1 dL_brings_47 (by decide) ?_
          refine lv_iand hx hb dL_brings_48 ?_
          refine lv_iload hx hb dL_brings_49 (lv_at hl 0 rfl) ?_
          refine x_ishl hx hb dL_brings_51 ?_
          refine lv_ior hx hb dL_brings_52 ?_
          refine lv_istore (lv' := [(7, .int ((vB2 (vFl fq (r / 2)) fq fb mm k) ||| (iShl (((iShr (vFl fq (r / 2)) (iRem ((nI k) + (fq 0)) (nI 3))) &&& (iShr (fb k) (nI mm))) &&& (nI 1)) (nI k)))), (8, .int (nI k)), (6, .int (vFl fq (r / 2))), (0, .int (nI r)), (1, .int (nI mm)), (2, .int (nI w)), (3, .ref aq), (4, .ref ar), (5, .ref ab)]) hx hb dL_brings_53 hl (by decide) rfl (fun ls hl => ?_)
          refine lv_iinc (v := nI (k + 1)) (lv' := [(8, .int (nI (k + 1))), (7, .int ((vB2 (vFl fq (r / 2)) fq fb mm k) ||| (iShl (((iShr (vFl fq (r / 2)) (iRem ((nI k) + (fq 0)) (nI 3))) &&& (iShr (fb k) (nI mm))) &&& (nI 1)) (nI k)))), (6, .int (vFl fq (r / 2))), (0, .int (nI r)), (1, .int (nI mm)), (2, .int (nI w)), (3, .ref aq), (4, .ref ar), (5, .ref ab)]) hx hb dL_brings_55 hl (k := 1) rfl (n_inc k 1 rfl) (by decide) rfl (fun ls hl => ?_)
          refine lv_goto (tgt := 20) hx hb dL_brings_58 (by decide) ?_
          have e_26 : ((vB2 (vFl fq (r / 2)) fq fb mm k) ||| (iShl (((iShr (vFl fq (r / 2)) (iRem ((nI k) + (fq 0)) (nI 3))) &&& (iShr (fb k) (nI mm))) &&& (nI 1)) (nI k))) = vB2 (vFl fq (r / 2)) fq fb mm (k + 1) := rfl
          exact ih20 (k + 1) (by omega) (by omega) _ _ rfl e_26 _ (lv_sub hl [0, 1, 2, 3, 4, 5, 6, 7, 8] rfl)
    exact L20 (3 + 1) 0 (by omega) (by omega) _ _ rfl rfl _ (lv_sub hl [0, 1, 2, 3, 4, 5, 6, 7, 8] rfl)
set_option maxHeartbeats 4000000 in
set_option maxRecDepth 100000 in
theorem c_L_ones (l : Launch) (G : va_G) (T : Nat → ClassId) (A : Nat → Prop) (x : Int32) (hx6 : x6 x) : RO l yL_ones wsL_ones 0 G T A ([]) [.int x] (pBC x) := by
  refine Met.ofW (cc := cL_ones) (maxL := 3) (ret := (some .int)) (by decide) rfl ?_
  intro p e s m args below meth c s₁ B hml hv
  obtain ⟨ha, hP, hK, hE⟩ := hv
  have hx := B.exec
  have hb := B.bytes
  have hr := B.returns
  have hlocks := B.notSynchronized
  have hts := atoms_spec (ws := wsL_ones) B.pre
  have hown : s.vm.findClass RL = some m.cls := findClass_of_methodNamed B.named
  have cx : CallFix p m c cL_ones 3 s args wsL_ones RL := ⟨hx, hb, hml, hown, hts⟩
  refine w_entry ha (Nat.le_of_ble_eq_true rfl) (fun ls hl => ?_)
  refine w_q (fun Q0 hQ => ?_)
  have hl : lv_has ls 3 [(0, .int x)] := hl
  have hP : va_P G vwCl [] s.heap := hP
  obtain ⟨c9, hc7, hc0, hcB, hcj⟩ := vLe_x hx6
  refine n_iconst hx hb 0 dL_ones_0 (by decide) ?_
  refine lv_istore_n (lv' := [(1, .int (nI 0)), (0, .int x)]) hx hb dL_ones_1 rfl hl (by decide) rfl (fun ls hl => ?_)
  refine lv_iload_n hx hb dL_ones_2 rfl (lv_at hl 1 rfl) ?_
  refine lv_istore_n (lv' := [(2, .int x), (1, .int (nI 0)), (0, .int x)]) hx hb dL_ones_3 rfl hl (by decide) rfl (fun ls hl => ?_)
  have L4 : ∀ (n9 k : Nat) (hk1 : k ≤ c9) (hk2 : c9 - k < n9) (x2 : Int32) (x1 : Int32) (hx2 : x2 = vLe x k) (hx1 : x1 = nI k) (ls : Array Slot) (hl : lv_has ls 3 [(2, .int x2), (1, .int x1), (0, .int x)]), W p l e (headSpec wsL_ones (rmD 0 0 0)).room s m args below meth c s.heap [] 0 0 Q0 (F0 m 4 ls []) := by
    intro n9
    induction n9 with
    | zero => intros; omega
    | succ n9 ih4 =>
      intro k hk1 hk2 x2 x1 hx2 hx1 ls hl
      subst hx2 hx1
      refine lv_iload_n hx hb dL_ones_4 rfl (lv_at hl 0 rfl) ?_
      refine lv_if_eq (tgt := 20) hx hb dL_ones_5 (by decide) (fun c_1 => ?_) (fun c_2 => ?_)
      · skip
        refine lv_iload_n hx hb dL_ones_20 rfl (lv_at hl 1 rfl) ?_
        subst hQ
        exact e_ro hx hb hr hlocks (by rcases Nat.lt_or_ge k c9 with h9 | h9; exact absurd c_1 (hcj k h9); rw [hcB, show k = c9 from (by omega)]) dL_ones_21
      · skip
        have hkc : k < c9 := (by rcases Nat.lt_or_ge k c9 with h9 | h9; exact h9; exact absurd (show vLe x k = 0 by rw [show k = c9 from (by omega)]; exact hc0) c_2)
        refine lv_iinc (v := nI (k + 1)) (lv' := [(1, .int (nI (k + 1))), (2, .int (vLe x k)), (0, .int x)]) hx hb dL_ones_8 hl (k := 1) rfl (n_inc k 1 rfl) (by decide) rfl (fun ls hl => ?_)
        refine lv_iload_n hx hb dL_ones_11 rfl (lv_at hl 1 rfl) ?_
        refine lv_iload_n hx hb dL_ones_12 rfl (lv_at hl 1 rfl) ?_
        refine n_iconst hx hb 1 dL_ones_13 (by decide) ?_
        refine lv_isub hx hb dL_ones_14 ?_
        refine lv_iand hx hb dL_ones_15 ?_
        refine lv_istore_n (lv' := [(2, .int ((vLe x k) &&& ((vLe x k) - (nI 1)))), (1, .int (nI (k + 1))), (0, .int x)]) hx hb dL_ones_16 rfl hl (by decide) rfl (fun ls hl => ?_)
        refine lv_goto (tgt := 4) hx hb dL_ones_17 (by decide) ?_
        have e_3 : ((vLe x k) &&& ((vLe x k) - (nI 1))) = vLe x (k + 1) := rfl
        exact ih4 (k + 1) (by omega) (by omega) _ _ e_3 rfl _ (lv_sub hl [0, 1, 2] rfl)
  exact L4 (c9 + 1) 0 (by omega) (by omega) _ _ rfl rfl _ (lv_sub hl [0, 1, 2] rfl)
set_option maxHeartbeats 4000000 in
set_option maxRecDepth 100000 in
theorem c_L_why (l : Launch) (G : va_G) (T : Nat → ClassId) (A : Nat → Prop) (aq : Nat) (fq : Nat → Int32) (at9 : Nat) (ft : Nat → Int32) (ar : Nat) (fr : Nat → Int32) (tn : Nat → Nat) (r : Nat) (mm : Nat) (htn : ∀ i : Nat, i < 20 → ft i = nI (tn i)) (htn9 : ∀ i : Nat, i < 20 → tn i < 167772160) (hr6 : r < 6) (hm20 : mm < 20) : RO l yL_why wsL_why 0 G T A ([(aq, .inl (T 0, 12, .inl fq))] ++ [(at9, .inl (T 0, 60, .inl ft))] ++ [(ar, .inl (T 0, 30, .inl fr))]) [.int (nI r), .int (nI mm), .ref aq, .ref at9, .ref ar] (vWy fq fr tn r mm) := by
  refine Met.ofW (cc := cL_why) (maxL := 5) (ret := (some .int)) (by decide) rfl ?_
  intro p e s m args below meth c s₁ B hml hv
  obtain ⟨ha, hP, hK, hE⟩ := hv
  have hx := B.exec
  have hb := B.bytes
  have hr := B.returns
  have hlocks := B.notSynchronized
  have hts := atoms_spec (ws := wsL_why) B.pre
  have hown : s.vm.findClass RL = some m.cls := findClass_of_methodNamed B.named
  have cx : CallFix p m c cL_why 5 s args wsL_why RL := ⟨hx, hb, hml, hown, hts⟩
  refine w_entry ha (Nat.le_of_ble_eq_true rfl) (fun ls hl => ?_)
  refine w_q (fun Q0 hQ => ?_)
  have hl : lv_has ls 5 [(0, .int (nI r)), (1, .int (nI mm)), (2, .ref aq), (3, .ref at9), (4, .ref ar)] := hl
  have hP : va_P G vwCl [(aq, .inl (T 0, 12, .inl fq)), (at9, .inl (T 0, 60, .inl ft)), (ar, .inl (T 0, 30, .inl fr))] s.heap := hP
  refine lv_aload hx hb dL_why_0 (lv_at hl 4 rfl) ?_
  refine n_iconst hx hb 5 dL_why_2 (by decide) ?_
  refine lv_iload_n hx hb dL_why_3 rfl (lv_at hl 0 rfl) ?_
  refine n_imul (a := 5) (b := r) hx hb dL_why_4 ?_
  refine n_iconst hx hb 1 dL_why_5 (by decide) ?_
  refine n_iadd (a := 5 * r) (b := 1) hx hb dL_why_6 ?_
  refine n_iald hx hb hK hP 2 0 rfl rfl (5 * r + 1) (by omega) (by decide) dL_why_7 ?_
  refine lv_aload_n hx hb dL_why_8 rfl (lv_at hl 2 rfl) ?_
  refine n_iconst hx hb 4 dL_why_9 (by decide) ?_
  refine n_iald hx hb hK hP 0 0 rfl rfl 4 (by decide) (by decide) dL_why_10 ?_
  refine lv_icmp_lt (tgt := 18) hx hb dL_why_11 (by decide) (fun c_1 => ?_) (fun c_2 => ?_)
  · skip
    refine lv_aload_n hx hb dL_why_18 rfl (lv_at hl 3 rfl) ?_
    have htm := htn9 mm hm20
    refine lv_iload_n hx hb dL_why_19 rfl (lv_at hl 1 rfl) ?_
    refine n_iald hx hb hK hP 1 0 rfl rfl mm (by omega) (by decide) dL_why_20 ?_
    refine n_top (y := nI (tn mm)) (htn _ (by omega)) ?_
    refine n_if_ne (a := tn mm) (tgt := 28) hx hb (by omega) dL_why_21 (by decide) (fun c_3 => ?_) (fun c_4 => ?_)
    · skip
      refine n_iconst hx hb 0 dL_why_28 (by decide) ?_
      subst hQ
      exact e_ro hx hb hr hlocks (by simp [vWy, c_1, c_3]) dL_why_29
    · skip
      refine n_iconst hx hb 2 dL_why_24 (by decide) ?_
      refine lv_goto (tgt := 29) hx hb dL_why_25 (by decide) ?_
      subst hQ
      exact e_ro hx hb hr hlocks (by simp [vWy, c_1, c_4]) dL_why_29
  · skip
    refine n_iconst hx hb 1 dL_why_14 (by decide) ?_
    refine lv_goto (tgt := 29) hx hb dL_why_15 (by decide) ?_
    subst hQ
    exact e_ro hx hb hr hlocks (by simp [vWy, c_2]) dL_why_29
set_option maxHeartbeats 20000000 in
set_option maxRecDepth 100000 in
theorem c_L_whistles (l : Launch) (G : va_G) (T : Nat → ClassId) (sz : Nat) (aq : Nat) (fq : Nat → Int32) (at9 : Nat) (ft : Nat → Int32) (ar : Nat) (fr : Nat → Int32) (ab : Nat) (fb : Nat → Int32) (tn : Nat → Nat) (r : Nat) (mm : Nat) (htn : ∀ i : Nat, i < 20 → ft i = nI (tn i)) (htn9 : ∀ i : Nat, i < 20 → tn i < 167772160) (hr6 : r < 6) (hm20 : mm < 20) (hwy : vWy fq fr tn r mm = nI 0) (hz1 : x6 (vBr (vW2 fq r mm) fr fb r mm 1)) (hz2 : x6 (vBr (vW3 fq fr fb r mm) fr fb r mm 2)) : RWi l yL_whistles wsL_whistles 2 0 0 G T sz ([(aq, .inl (T 0, 12, .inl fq))] ++ [(at9, .inl (T 0, 60, .inl ft))] ++ [(ar, .inl (T 0, 30, .inl fr))] ++ [(ab, .inl (T 0, 3, .inl fb))]) [.int (nI r), .int (nI mm), .ref aq, .ref at9, .ref ar, .ref ab] (pBC ((vW5 fq fr fb r mm) 9)) ([(aq, .inl (T 0, 12, .inl (vWq fq fr fb r mm)))] ++ [(at9, .inl (T 0, 60, .inl (vWt fq ft fr fb r mm)))] ++ [(ar, .inl (T 0, 30, .inl (vWr fq fr fb r mm)))] ++ [(ab, .inl (T 0, 3, .inl fb))]) := by
  refine Met.ofW (cc := cL_whistles) (maxL := 9) (ret := (some .int)) (by decide) rfl ?_
  intro p e s m args below meth c s₁ B hml hv
  obtain ⟨ha, hsz, hP, hK, hD0, hE0⟩ := hv
  have hx := B.exec
  have hb := B.bytes
  have hr := B.returns
  have hlocks := B.notSynchronized
  have hts := atoms_spec (ws := wsL_whistles) B.pre
  have hown : s.vm.findClass RL = some m.cls := findClass_of_methodNamed B.named
  have cx : CallFix p m c cL_whistles 9 s args wsL_whistles RL := ⟨hx, hb, hml, hown, hts⟩
  subst hsz
  have hD := hD0.self (sz := s.heap.size)
  generalize hAe : va_A ([(aq, .inl (T 0, 12, .inl fq))] ++ [(at9, .inl (T 0, 60, .inl ft))] ++ [(ar, .inl (T 0, 30, .inl fr))] ++ [(ab, .inl (T 0, 3, .inl fb))]) s.heap.size = A at hD hE0 ⊢
  have hE : gE A s s.heap := hE0
  have hA : ∀ q : Nat, s.heap.size ≤ q → A q := fun q h => by rw [← hAe]; exact Or.inr h
  have hS : va_S A s.heap s.heap [] := va_S.rf
  refine w_entry ha (Nat.le_of_ble_eq_true rfl) (fun ls hl => ?_)
  refine w_q (fun Q0 hQ => ?_)
  have hl : lv_has ls 9 [(0, .int (nI r)), (1, .int (nI mm)), (2, .ref aq), (3, .ref at9), (4, .ref ar), (5, .ref ab)] := hl
  have hP : va_P G vwCl [(aq, .inl (T 0, 12, .inl fq)), (at9, .inl (T 0, 60, .inl ft)), (ar, .inl (T 0, 30, .inl fr)), (ab, .inl (T 0, 3, .inl fb))] s.heap := hP
  have hD : va_D A [(aq, .inl (T 0, 12, .inl fq)), (at9, .inl (T 0, 60, .inl ft)), (ar, .inl (T 0, 30, .inl fr)), (ab, .inl (T 0, 3, .inl fb))] := hD
  skip
  refine w_h (fun H locs hHe hLe => ?_)
  have hP : va_P G vwCl [(aq, .inl (T 0, 12, .inl fq)), (at9, .inl (T 0, 60, .inl ft)), (ar, .inl (T 0, 30, .inl fr)), (ab, .inl (T 0, 3, .inl fb))] H := by rw [hHe]; exact hP
  have hS : va_S A s.heap H locs := by rw [hHe, hLe]; exact hS
  refine lv_iload_n hx hb dL_whistles_0 rfl (lv_at hl 0 rfl) ?_
  refine lv_iload_n hx hb dL_whistles_1 rfl (lv_at hl 1 rfl) ?_
  refine lv_aload_n hx hb dL_whistles_2 rfl (lv_at hl 2 rfl) ?_
  refine lv_aload_n hx hb dL_whistles_3 rfl (lv_at hl 3 rfl) ?_
  refine lv_aload hx hb dL_whistles_4 (lv_at hl 4 rfl) ?_
  refine k_roS (As := [.int (nI r), .int (nI mm), .ref aq, .ref at9, .ref ar]) (rest := []) (wc := [(aq, .inl (T 0, 12, .inl fq))] ++ [(at9, .inl (T 0, 60, .inl ft))] ++ [(ar, .inl (T 0, 30, .inl fr))]) (d := 0) (v := vWy fq fr tn r mm) cx (c_L_why l G T A aq fq at9 ft ar fr tn r mm (by first | assumption | rfl | omega) (by omega) (by omega) (by omega)) (va_cwS 5 hts gL_whistles_L_why rfl rfl rfl (by decide +kernel) ⟨Nat.le_of_ble_eq_true rfl, Nat.le_of_ble_eq_true rfl⟩) (hP.sub (ws' := [(aq, .inl (T 0, 12, .inl fq))] ++ [(at9, .inl (T 0, 60, .inl ft))] ++ [(ar, .inl (T 0, 30, .inl fr))]) [0, 1, 2] rfl) hK (hE.kept hS.2.1) rfl hl.1 rfl (Nat.le_of_ble_eq_true rfl) dL_whistles_6 ⟨Nat.le_of_ble_eq_true rfl, Nat.le_of_ble_eq_true rfl⟩ ?_
  refine lv_if_le (tgt := 15) hx hb dL_whistles_9 (by decide) (fun c_1 => ?_) (fun c_2 => by exfalso; rw [hwy] at c_2; exact absurd c_2 (by decide))
  refine lv_aload_n hx hb dL_whistles_15 rfl (lv_at hl 2 rfl) ?_
  refine lv_bipush (v := nI 6) hx hb dL_whistles_16 (by decide) ?_
  refine lv_iload_n hx hb dL_whistles_18 rfl (lv_at hl 0 rfl) ?_
  refine n_iast hx hb hK hP hD hS 0 0 rfl rfl 6 (by decide) (by decide) dL_whistles_19 (fun H locs hP hD hS => ?_)
  have hP : va_P G vwCl [(aq, .inl (T 0, 12, .inl (upd fq 6 (nI r)))), (at9, .inl (T 0, 60, .inl ft)), (ar, .inl (T 0, 30, .inl fr)), (ab, .inl (T 0, 3, .inl fb))] H := hP
  have hD : va_D A [(aq, .inl (T 0, 12, .inl (upd fq 6 (nI r)))), (at9, .inl (T 0, 60, .inl ft)), (ar, .inl (T 0, 30, .inl fr)), (ab, .inl (T 0, 3, .inl fb))] := hD
  refine lv_aload_n hx hb dL_whistles_20 rfl (lv_at hl 2 rfl) ?_
  refine lv_bipush (v := nI 7) hx hb dL_whistles_21 (by decide) ?_
  refine lv_iload_n hx hb dL_whistles_23 rfl (lv_at hl 1 rfl) ?_
  refine n_iast hx hb hK hP hD hS 0 0 rfl rfl 7 (by decide) (by decide) dL_whistles_24 (fun H locs hP hD hS => ?_)
  have hP : va_P G vwCl [(aq, .inl (T 0, 12, .inl (upd (upd fq 6 (nI r)) 7 (nI mm)))), (at9, .inl (T 0, 60, .inl ft)), (ar, .inl (T 0, 30, .inl fr)), (ab, .inl (T 0, 3, .inl fb))] H := hP
  have hD : va_D A [(aq, .inl (T 0, 12, .inl (upd (upd fq 6 (nI r)) 7 (nI mm)))), (at9, .inl (T 0, 60, .inl ft)), (ar, .inl (T 0, 30, .inl fr)), (ab, .inl (T 0, 3, .inl fb))] := hD
  refine lv_aload_n hx hb dL_whistles_25 rfl (lv_at hl 2 rfl) ?_
  refine lv_bipush (v := nI 8) hx hb dL_whistles_26 (by decide) ?_
  refine lv_iload_n hx hb dL_whistles_28 rfl (lv_at hl 0 rfl) ?_
  refine n_iconst hx hb 2 dL_whistles_29 (by decide) ?_
  refine n_idiv (a := r) (b := 2) hx hb (by omega) (by decide) (by decide) dL_whistles_30 ?_
  refine lv_aload_n hx hb dL_whistles_31 rfl (lv_at hl 2 rfl) ?_
  refine k_roS (As := [.int (nI (r / 2)), .ref aq]) (rest := [.int (nI 8), .ref aq]) (wc := [(aq, .inl (T 0, 12, .inl (upd (upd fq 6 (nI r)) 7 (nI mm))))]) (d := 0) (v := vFl (upd (upd fq 6 (nI r)) 7 (nI mm)) (r / 2)) cx (c_L_floors l G T A aq (upd (upd fq 6 (nI r)) 7 (nI mm)) (r / 2) (by omega)) (va_cwS 2 hts gL_whistles_L_floors rfl rfl rfl (by decide +kernel) ⟨Nat.le_of_ble_eq_true rfl, Nat.le_of_ble_eq_true rfl⟩) (hP.sub (ws' := [(aq, .inl (T 0, 12, .inl (upd (upd fq 6 (nI r)) 7 (nI mm))))]) [0] rfl) hK (hE.kept hS.2.1) rfl hl.1 rfl (Nat.le_of_ble_eq_true rfl) dL_whistles_32 ⟨Nat.le_of_ble_eq_true rfl, Nat.le_of_ble_eq_true rfl⟩ ?_
  refine n_iast hx hb hK hP hD hS 0 0 rfl rfl 8 (by decide) (by decide) dL_whistles_35 (fun H locs hP hD hS => ?_)
  have hP : va_P G vwCl [(aq, .inl (T 0, 12, .inl (upd (upd (upd fq 6 (nI r)) 7 (nI mm)) 8 (vFl (upd (upd fq 6 (nI r)) 7 (nI mm)) (r / 2))))), (at9, .inl (T 0, 60, .inl ft)), (ar, .inl (T 0, 30, .inl fr)), (ab, .inl (T 0, 3, .inl fb))] H := hP
  have hD : va_D A [(aq, .inl (T 0, 12, .inl (upd (upd (upd fq 6 (nI r)) 7 (nI mm)) 8 (vFl (upd (upd fq 6 (nI r)) 7 (nI mm)) (r / 2))))), (at9, .inl (T 0, 60, .inl ft)), (ar, .inl (T 0, 30, .inl fr)), (ab, .inl (T 0, 3, .inl fb))] := hD
  have hP : va_P G vwCl [(aq, .inl (T 0, 12, .inl (vW2 fq r mm))), (at9, .inl (T 0, 60, .inl ft)), (ar, .inl (T 0, 30, .inl fr)), (ab, .inl (T 0, 3, .inl fb))] H := hP
  have hD : va_D A [(aq, .inl (T 0, 12, .inl (vW2 fq r mm))), (at9, .inl (T 0, 60, .inl ft)), (ar, .inl (T 0, 30, .inl fr)), (ab, .inl (T 0, 3, .inl fb))] := hD
  refine lv_aload_n hx hb dL_whistles_36 rfl (lv_at hl 2 rfl) ?_
  refine lv_bipush (v := nI 9) hx hb dL_whistles_37 (by decide) ?_
  refine lv_iload_n hx hb dL_whistles_39 rfl (lv_at hl 0 rfl) ?_
  refine lv_iload_n hx hb dL_whistles_40 rfl (lv_at hl 1 rfl) ?_
  refine n_iconst hx hb 1 dL_whistles_41 (by decide) ?_
  refine lv_aload_n hx hb dL_whistles_42 rfl (lv_at hl 2 rfl) ?_
  refine lv_aload hx hb dL_whistles_43 (lv_at hl 4 rfl) ?_
  refine lv_aload hx hb dL_whistles_45 (lv_at hl 5 rfl) ?_
  refine k_roS (As := [.int (nI r), .int (nI mm), .int (nI 1), .ref aq, .ref ar, .ref ab]) (rest := [.int (nI 9), .ref aq]) (wc := [(aq, .inl (T 0, 12, .inl (vW2 fq r mm)))] ++ [(ar, .inl (T 0, 30, .inl fr))] ++ [(ab, .inl (T 0, 3, .inl fb))]) (d := 1) (v := vBr (vW2 fq r mm) fr fb r mm 1) cx (c_L_brings l G T A aq (vW2 fq r mm) ar fr ab fb r mm 1 (by omega) (by omega) (by omega)) (va_cwS 6 hts gL_whistles_L_brings rfl rfl rfl (by decide +kernel) ⟨Nat.le_of_ble_eq_true rfl, Nat.le_of_ble_eq_true rfl⟩) (hP.sub (ws' := [(aq, .inl (T 0, 12, .inl (vW2 fq r mm)))] ++ [(ar, .inl (T 0, 30, .inl fr))] ++ [(ab, .inl (T 0, 3, .inl fb))]) [0, 2, 3] rfl) hK (hE.kept hS.2.1) rfl hl.1 rfl (Nat.le_of_ble_eq_true rfl) dL_whistles_47 ⟨Nat.le_of_ble_eq_true rfl, Nat.le_of_ble_eq_true rfl⟩ ?_
  refine n_iast hx hb hK hP hD hS 0 0 rfl rfl 9 (by decide) (by decide) dL_whistles_50 (fun H locs hP hD hS => ?_)
  have hP : va_P G vwCl [(aq, .inl (T 0, 12, .inl (upd (vW2 fq r mm) 9 (vBr (vW2 fq r mm) fr fb r mm 1)))), (at9, .inl (T 0, 60, .inl ft)), (ar, .inl (T 0, 30, .inl fr)), (ab, .inl (T 0, 3, .inl fb))] H := hP
  have hD : va_D A [(aq, .inl (T 0, 12, .inl (upd (vW2 fq r mm) 9 (vBr (vW2 fq r mm) fr fb r mm 1)))), (at9, .inl (T 0, 60, .inl ft)), (ar, .inl (T 0, 30, .inl fr)), (ab, .inl (T 0, 3, .inl fb))] := hD
  have hP : va_P G vwCl [(aq, .inl (T 0, 12, .inl (vW3 fq fr fb r mm))), (at9, .inl (T 0, 60, .inl ft)), (ar, .inl (T 0, 30, .inl fr)), (ab, .inl (T 0, 3, .inl fb))] H := hP
  have hD : va_D A [(aq, .inl (T 0, 12, .inl (vW3 fq fr fb r mm))), (at9, .inl (T 0, 60, .inl ft)), (ar, .inl (T 0, 30, .inl fr)), (ab, .inl (T 0, 3, .inl fb))] := hD
  refine lv_aload_n hx hb dL_whistles_51 rfl (lv_at hl 2 rfl) ?_
  refine lv_bipush (v := nI 10) hx hb dL_whistles_52 (by decide) ?_
  refine lv_iload_n hx hb dL_whistles_54 rfl (lv_at hl 0 rfl) ?_
  refine lv_iload_n hx hb dL_whistles_55 rfl (lv_at hl 1 rfl) ?_
  refine n_iconst hx hb 2 dL_whistles_56 (by decide) ?_
  refine lv_aload_n hx hb dL_whistles_57 rfl (lv_at hl 2 rfl) ?_
  refine lv_aload hx hb dL_whistles_58 (lv_at hl 4 rfl) ?_
  refine lv_aload hx hb dL_whistles_60 (lv_at hl 5 rfl) ?_
  refine k_roS (As := [.int (nI r), .int (nI mm), .int (nI 2), .ref aq, .ref ar, .ref ab]) (rest := [.int (nI 10), .ref aq]) (wc := [(aq, .inl (T 0, 12, .inl (vW3 fq fr fb r mm)))] ++ [(ar, .inl (T 0, 30, .inl fr))] ++ [(ab, .inl (T 0, 3, .inl fb))]) (d := 1) (v := vBr (vW3 fq fr fb r mm) fr fb r mm 2) cx (c_L_brings l G T A aq (vW3 fq fr fb r mm) ar fr ab fb r mm 2 (by omega) (by omega) (by omega)) (va_cwS 6 hts gL_whistles_L_brings rfl rfl rfl (by decide +kernel) ⟨Nat.le_of_ble_eq_true rfl, Nat.le_of_ble_eq_true rfl⟩) (hP.sub (ws' := [(aq, .inl (T 0, 12, .inl (vW3 fq fr fb r mm)))] ++ [(ar, .inl (T 0, 30, .inl fr))] ++ [(ab, .inl (T 0, 3, .inl fb))]) [0, 2, 3] rfl) hK (hE.kept hS.2.1) rfl hl.1 rfl (Nat.le_of_ble_eq_true rfl) dL_whistles_62 ⟨Nat.le_of_ble_eq_true rfl, Nat.le_of_ble_eq_true rfl⟩ ?_
  refine n_iast hx hb hK hP hD hS 0 0 rfl rfl 10 (by decide) (by decide) dL_whistles_65 (fun H locs hP hD hS => ?_)
  have hP : va_P G vwCl [(aq, .inl (T 0, 12, .inl (upd (vW3 fq fr fb r mm) 10 (vBr (vW3 fq fr fb r mm) fr fb r mm 2)))), (at9, .inl (T 0, 60, .inl ft)), (ar, .inl (T 0, 30, .inl fr)), (ab, .inl (T 0, 3, .inl fb))] H := hP
  have hD : va_D A [(aq, .inl (T 0, 12, .inl (upd (vW3 fq fr fb r mm) 10 (vBr (vW3 fq fr fb r mm) fr fb r mm 2)))), (at9, .inl (T 0, 60, .inl ft)), (ar, .inl (T 0, 30, .inl fr)), (ab, .inl (T 0, 3, .inl fb))] := hD
  have hP : va_P G vwCl [(aq, .inl (T 0, 12, .inl (vW4 fq fr fb r mm))), (at9, .inl (T 0, 60, .inl ft)), (ar, .inl (T 0, 30, .inl fr)), (ab, .inl (T 0, 3, .inl fb))] H := hP
  have hD : va_D A [(aq, .inl (T 0, 12, .inl (vW4 fq fr fb r mm))), (at9, .inl (T 0, 60, .inl ft)), (ar, .inl (T 0, 30, .inl fr)), (ab, .inl (T 0, 3, .inl fb))] := hD
  refine lv_aload_n hx hb dL_whistles_66 rfl (lv_at hl 2 rfl) ?_
  refine lv_bipush (v := nI 11) hx hb dL_whistles_67 (by decide) ?_
  refine lv_iload_n hx hb dL_whistles_69 rfl (lv_at hl 0 rfl) ?_
  refine lv_iload_n hx hb dL_whistles_70 rfl (lv_at hl 1 rfl) ?_
  refine n_iconst hx hb 3 dL_whistles_71 (by decide) ?_
  refine lv_aload_n hx hb dL_whistles_72 rfl (lv_at hl 2 rfl) ?_
  refine lv_aload hx hb dL_whistles_73 (lv_at hl 4 rfl) ?_
  refine lv_aload hx hb dL_whistles_75 (lv_at hl 5 rfl) ?_
  refine k_roS (As := [.int (nI r), .int (nI mm), .int (nI 3), .ref aq, .ref ar, .ref ab]) (rest := [.int (nI 11), .ref aq]) (wc := [(aq, .inl (T 0, 12, .inl (vW4 fq fr fb r mm)))] ++ [(ar, .inl (T 0, 30, .inl fr))] ++ [(ab, .inl (T 0, 3, .inl fb))]) (d := 1) (v := vBr (vW4 fq fr fb r mm) fr fb r mm 3) cx (c_L_brings l G T A aq (vW4 fq fr fb r mm) ar fr ab fb r mm 3 (by omega) (by omega) (by omega)) (va_cwS 6 hts gL_whistles_L_brings rfl rfl rfl (by decide +kernel) ⟨Nat.le_of_ble_eq_true rfl, Nat.le_of_ble_eq_true rfl⟩) (hP.sub (ws' := [(aq, .inl (T 0, 12, .inl (vW4 fq fr fb r mm)))] ++ [(ar, .inl (T 0, 30, .inl fr))] ++ [(ab, .inl (T 0, 3, .inl fb))]) [0, 2, 3] rfl) hK (hE.kept hS.2.1) rfl hl.1 rfl (Nat.le_of_ble_eq_true rfl) dL_whistles_77 ⟨Nat.le_of_ble_eq_true rfl, Nat.le_of_ble_eq_true rfl⟩ ?_
  refine n_iast hx hb hK hP hD hS 0 0 rfl rfl 11 (by decide) (by decide) dL_whistles_80 (fun H locs hP hD hS => ?_)
  have hP : va_P G vwCl [(aq, .inl (T 0, 12, .inl (upd (vW4 fq fr fb r mm) 11 (vBr (vW4 fq fr fb r mm) fr fb r mm 3)))), (at9, .inl (T 0, 60, .inl ft)), (ar, .inl (T 0, 30, .inl fr)), (ab, .inl (T 0, 3, .inl fb))] H := hP
  have hD : va_D A [(aq, .inl (T 0, 12, .inl (upd (vW4 fq fr fb r mm) 11 (vBr (vW4 fq fr fb r mm) fr fb r mm 3)))), (at9, .inl (T 0, 60, .inl ft)), (ar, .inl (T 0, 30, .inl fr)), (ab, .inl (T 0, 3, .inl fb))] := hD
  have hP : va_P G vwCl [(aq, .inl (T 0, 12, .inl (vW5 fq fr fb r mm))), (at9, .inl (T 0, 60, .inl ft)), (ar, .inl (T 0, 30, .inl fr)), (ab, .inl (T 0, 3, .inl fb))] H := hP
  have hD : va_D A [(aq, .inl (T 0, 12, .inl (vW5 fq fr fb r mm))), (at9, .inl (T 0, 60, .inl ft)), (ar, .inl (T 0, 30, .inl fr)), (ab, .inl (T 0, 3, .inl fb))] := hD
  refine lv_iload_n hx hb dL_whistles_81 rfl (lv_at hl 0 rfl) ?_
  refine lv_iload_n hx hb dL_whistles_82 rfl (lv_at hl 1 rfl) ?_
  refine n_iconst hx hb 0 dL_whistles_83 (by decide) ?_
  refine lv_aload_n hx hb dL_whistles_84 rfl (lv_at hl 2 rfl) ?_
  refine lv_aload hx hb dL_whistles_85 (lv_at hl 4 rfl) ?_
  refine lv_aload hx hb dL_whistles_87 (lv_at hl 5 rfl) ?_
  refine k_roS (As := [.int (nI r), .int (nI mm), .int (nI 0), .ref aq, .ref ar, .ref ab]) (rest := []) (wc := [(aq, .inl (T 0, 12, .inl (vW5 fq fr fb r mm)))] ++ [(ar, .inl (T 0, 30, .inl fr))] ++ [(ab, .inl (T 0, 3, .inl fb))]) (d := 1) (v := vBr (vW5 fq fr fb r mm) fr fb r mm 0) cx (c_L_brings l G T A aq (vW5 fq fr fb r mm) ar fr ab fb r mm 0 (by omega) (by omega) (by omega)) (va_cwS 6 hts gL_whistles_L_brings rfl rfl rfl (by decide +kernel) ⟨Nat.le_of_ble_eq_true rfl, Nat.le_of_ble_eq_true rfl⟩) (hP.sub (ws' := [(aq, .inl (T 0, 12, .inl (vW5 fq fr fb r mm)))] ++ [(ar, .inl (T 0, 30, .inl fr))] ++ [(ab, .inl (T 0, 3, .inl fb))]) [0, 2, 3] rfl) hK (hE.kept hS.2.1) rfl hl.1 rfl (Nat.le_of_ble_eq_true rfl) dL_whistles_89 ⟨Nat.le_of_ble_eq_true rfl, Nat.le_of_ble_eq_true rfl⟩ ?_
  refine lv_istore (lv' := [(6, .int (vBr (vW5 fq fr fb r mm) fr fb r mm 0)), (0, .int (nI r)), (1, .int (nI mm)), (2, .ref aq), (3, .ref at9), (4, .ref ar), (5, .ref ab)]) hx hb dL_whistles_92 hl (by decide) rfl (fun ls hl => ?_)
  refine n_iconst hx hb 0 dL_whistles_94 (by decide) ?_
  refine lv_istore (lv' := [(7, .int (nI 0)), (6, .int (vBr (vW5 fq fr fb r mm) fr fb r mm 0)), (0, .int (nI r)), (1, .int (nI mm)), (2, .ref aq), (3, .ref at9), (4, .ref ar), (5, .ref ab)]) hx hb dL_whistles_95 hl (by decide) rfl (fun ls hl => ?_)
  have L97 : ∀ (n9 k : Nat) (hk1 : k ≤ 6) (hk2 : 6 - k < n9) (x7 : Int32) (B_3 : Nat → Int32) (hx7 : x7 = nI k) (hB_3 : B_3 = vRL (vW5 fq fr fb r mm) fr (vWh fq fr fb r mm) k) (H : Heap) (locs : List Loc) (hP : va_P G vwCl [(aq, .inl (T 0, 12, .inl (vW5 fq fr fb r mm))), (at9, .inl (T 0, 60, .inl ft)), (ar, .inl (T 0, 30, .inl B_3)), (ab, .inl (T 0, 3, .inl fb))] H) (hD : va_D A [(aq, .inl (T 0, 12, .inl (vW5 fq fr fb r mm))), (at9, .inl (T 0, 60, .inl ft)), (ar, .inl (T 0, 30, .inl B_3)), (ab, .inl (T 0, 3, .inl fb))]) (hS : va_S A s.heap H locs) (ls : Array Slot) (hl : lv_has ls 9 [(7, .int x7), (6, .int (vBr (vW5 fq fr fb r mm) fr fb r mm 0)), (0, .int (nI r)), (1, .int (nI mm)), (2, .ref aq), (3, .ref at9), (4, .ref ar), (5, .ref ab)]), W p l e (headSpec wsL_whistles (rmD 2 0 0)).room s m args below meth c H locs 0 0 Q0 (F0 m 97 ls []) := by
    intro n9
    induction n9 with
    | zero => intros; omega
    | succ n9 ih97 =>
      intro k hk1 hk2 x7 B_3 hx7 hB_3 H locs hP hD hS ls hl
      subst hx7 hB_3
      refine lv_iload hx hb dL_whistles_97 (lv_at hl 0 rfl) ?_
      refine lv_bipush (v := nI 6) hx hb dL_whistles_99 (by decide) ?_
      refine n_icmp_ge (a := k) (b := 6) (tgt := 178) hx hb (by omega) (by decide) dL_whistles_101 (by decide) (fun c_4 => ?_) (fun c_5 => ?_)
      · skip
        obtain rfl : k = 6 := (by omega)
        refine lv_aload hx hb dL_whistles_178 (lv_at hl 6 rfl) ?_
        refine n_iconst hx hb 5 dL_whistles_180 (by decide) ?_
        refine lv_iload_n hx hb dL_whistles_181 rfl (lv_at hl 2 rfl) ?_
        refine n_imul (a := 5) (b := r) hx hb dL_whistles_182 ?_
        refine n_iconst hx hb 1 dL_whistles_183 (by decide) ?_
        refine n_iadd (a := 5 * r) (b := 1) hx hb dL_whistles_184 ?_
        refine lv_dup2_11 hx hb dL_whistles_185 rfl rfl ?_
        refine n_iald hx hb hK hP 2 0 rfl rfl (5 * r + 1) (by omega) (by decide) dL_whistles_186 ?_
        refine lv_aload_n hx hb dL_whistles_187 rfl (lv_at hl 4 rfl) ?_
        refine lv_bipush (v := nI 10) hx hb dL_whistles_188 (by decide) ?_
        refine n_iald hx hb hK hP 0 0 rfl rfl 10 (by decide) (by decide) dL_whistles_190 ?_
        refine k_roS (As := [.int ((vW5 fq fr fb r mm) 10)]) (rest := [.int ((vRL (vW5 fq fr fb r mm) fr (vWh fq fr fb r mm) 6) (5 * r + 1)), .int (nI (5 * r + 1)), .ref ar]) (wc := []) (d := 0) (v := pBC ((vW5 fq fr fb r mm) 10)) cx (c_L_ones l G T A ((vW5 fq fr fb r mm) 10) hz2) (va_cwS 1 hts gL_whistles_L_ones rfl rfl rfl (by decide +kernel) ⟨Nat.le_of_ble_eq_true rfl, Nat.le_of_ble_eq_true rfl⟩) (hP.sub (ws' := []) [] rfl) hK (hE.kept hS.2.1) rfl hl.1 rfl (Nat.le_of_ble_eq_true rfl) dL_whistles_191 ⟨Nat.le_of_ble_eq_true rfl, Nat.le_of_ble_eq_true rfl⟩ ?_
        refine lv_iadd hx hb dL_whistles_194 ?_
        refine n_iast hx hb hK hP hD hS 2 0 rfl rfl (5 * r + 1) (by omega) (by decide) dL_whistles_195 (fun H locs hP hD hS => ?_)
        have hP : va_P G vwCl [(aq, .inl (T 0, 12, .inl (vW5 fq fr fb r mm))), (at9, .inl (T 0, 60, .inl ft)), (ar, .inl (T 0, 30, .inl (upd (vRL (vW5 fq fr fb r mm) fr (vWh fq fr fb r mm) 6) (5 * r + 1) (((vRL (vW5 fq fr fb r mm) fr (vWh fq fr fb r mm) 6) (5 * r + 1)) + (pBC ((vW5 fq fr fb r mm) 10)))))), (ab, .inl (T 0, 3, .inl fb))] H := hP
        have hD : va_D A [(aq, .inl (T 0, 12, .inl (vW5 fq fr fb r mm))), (at9, .inl (T 0, 60, .inl ft)), (ar, .inl (T 0, 30, .inl (upd (vRL (vW5 fq fr fb r mm) fr (vWh fq fr fb r mm) 6) (5 * r + 1) (((vRL (vW5 fq fr fb r mm) fr (vWh fq fr fb r mm) 6) (5 * r + 1)) + (pBC ((vW5 fq fr fb r mm) 10)))))), (ab, .inl (T 0, 3, .inl fb))] := hD
        have hP : va_P G vwCl [(aq, .inl (T 0, 12, .inl (vW5 fq fr fb r mm))), (at9, .inl (T 0, 60, .inl ft)), (ar, .inl (T 0, 30, .inl (vWr fq fr fb r mm))), (ab, .inl (T 0, 3, .inl fb))] H := hP
        have hD : va_D A [(aq, .inl (T 0, 12, .inl (vW5 fq fr fb r mm))), (at9, .inl (T 0, 60, .inl ft)), (ar, .inl (T 0, 30, .inl (vWr fq fr fb r mm))), (ab, .inl (T 0, 3, .inl fb))] := hD
        refine lv_aload_n hx hb dL_whistles_196 rfl (lv_at hl 4 rfl) ?_
        refine n_iconst hx hb 5 dL_whistles_197 (by decide) ?_
        refine lv_dup2_11 hx hb dL_whistles_198 rfl rfl ?_
        refine n_iald hx hb hK hP 0 0 rfl rfl 5 (by decide) (by decide) dL_whistles_199 ?_
        refine n_iconst hx hb 1 dL_whistles_200 (by decide) ?_
        refine lv_iadd hx hb dL_whistles_201 ?_
        refine n_iast hx hb hK hP hD hS 0 0 rfl rfl 5 (by decide) (by decide) dL_whistles_202 (fun H locs hP hD hS => ?_)
        have hP : va_P G vwCl [(aq, .inl (T 0, 12, .inl (upd (vW5 fq fr fb r mm) 5 (((vW5 fq fr fb r mm) 5) + (nI 1))))), (at9, .inl (T 0, 60, .inl ft)), (ar, .inl (T 0, 30, .inl (vWr fq fr fb r mm))), (ab, .inl (T 0, 3, .inl fb))] H := hP
        have hD : va_D A [(aq, .inl (T 0, 12, .inl (upd (vW5 fq fr fb r mm) 5 (((vW5 fq fr fb r mm) 5) + (nI 1))))), (at9, .inl (T 0, 60, .inl ft)), (ar, .inl (T 0, 30, .inl (vWr fq fr fb r mm))), (ab, .inl (T 0, 3, .inl fb))] := hD
        have hP : va_P G vwCl [(aq, .inl (T 0, 12, .inl (vWq fq fr fb r mm))), (at9, .inl (T 0, 60, .inl ft)), (ar, .inl (T 0, 30, .inl (vWr fq fr fb r mm))), (ab, .inl (T 0, 3, .inl fb))] H := hP
        have hD : va_D A [(aq, .inl (T 0, 12, .inl (vWq fq fr fb r mm))), (at9, .inl (T 0, 60, .inl ft)), (ar, .inl (T 0, 30, .inl (vWr fq fr fb r mm))), (ab, .inl (T 0, 3, .inl fb))] := hD
        refine lv_aload_n hx hb dL_whistles_203 rfl (lv_at hl 5 rfl) ?_
        refine lv_bipush (v := nI 20) hx hb dL_whistles_204 (by decide) ?_
        refine lv_iload_n hx hb dL_whistles_206 rfl (lv_at hl 3 rfl) ?_
        refine n_iadd (a := 20) (b := mm) hx hb dL_whistles_207 ?_
        refine lv_dup2_11 hx hb dL_whistles_208 rfl rfl ?_
        refine n_iald hx hb hK hP 1 0 rfl rfl (20 + mm) (by omega) (by decide) dL_whistles_209 ?_
        refine n_iconst hx hb 1 dL_whistles_210 (by decide) ?_
        refine lv_iadd hx hb dL_whistles_211 ?_
        refine n_iast hx hb hK hP hD hS 1 0 rfl rfl (20 + mm) (by omega) (by decide) dL_whistles_212 (fun H locs hP hD hS => ?_)
        have hP : va_P G vwCl [(aq, .inl (T 0, 12, .inl (vWq fq fr fb r mm))), (at9, .inl (T 0, 60, .inl (upd ft (20 + mm) ((ft (20 + mm)) + (nI 1))))), (ar, .inl (T 0, 30, .inl (vWr fq fr fb r mm))), (ab, .inl (T 0, 3, .inl fb))] H := hP
        have hD : va_D A [(aq, .inl (T 0, 12, .inl (vWq fq fr fb r mm))), (at9, .inl (T 0, 60, .inl (upd ft (20 + mm) ((ft (20 + mm)) + (nI 1))))), (ar, .inl (T 0, 30, .inl (vWr fq fr fb r mm))), (ab, .inl (T 0, 3, .inl fb))] := hD
        refine lv_aload_n hx hb dL_whistles_213 rfl (lv_at hl 5 rfl) ?_
        refine lv_bipush (v := nI 40) hx hb dL_whistles_214 (by decide) ?_
        refine lv_iload_n hx hb dL_whistles_216 rfl (lv_at hl 3 rfl) ?_
        refine n_iadd (a := 40) (b := mm) hx hb dL_whistles_217 ?_
        refine lv_dup2_11 hx hb dL_whistles_218 rfl rfl ?_
        refine n_iald hx hb hK hP 1 0 rfl rfl (40 + mm) (by omega) (by decide) dL_whistles_219 ?_
        refine lv_aload_n hx hb dL_whistles_220 rfl (lv_at hl 4 rfl) ?_
        refine lv_bipush (v := nI 9) hx hb dL_whistles_221 (by decide) ?_
        refine n_iald hx hb hK hP 0 0 rfl rfl 9 (by decide) (by decide) dL_whistles_223 ?_
        refine k_roS (As := [.int ((vWq fq fr fb r mm) 9)]) (rest := [.int ((upd ft (20 + mm) ((ft (20 + mm)) + (nI 1))) (40 + mm)), .int (nI (40 + mm)), .ref at9]) (wc := []) (d := 0) (v := pBC ((vWq fq fr fb r mm) 9)) cx (c_L_ones l G T A ((vWq fq fr fb r mm) 9) hz1) (va_cwS 1 hts gL_whistles_L_ones rfl rfl rfl (by decide +kernel) ⟨Nat.le_of_ble_eq_true rfl, Nat.le_of_ble_eq_true rfl⟩) (hP.sub (ws' := []) [] rfl) hK (hE.kept hS.2.1) rfl hl.1 rfl (Nat.le_of_ble_eq_true rfl) dL_whistles_224 ⟨Nat.le_of_ble_eq_true rfl, Nat.le_of_ble_eq_true rfl⟩ ?_
        refine lv_iadd hx hb dL_whistles_227 ?_
        refine n_iast hx hb hK hP hD hS 1 0 rfl rfl (40 + mm) (by omega) (by decide) dL_whistles_228 (fun H locs hP hD hS => ?_)
        have hP : va_P G vwCl [(aq, .inl (T 0, 12, .inl (vWq fq fr fb r mm))), (at9, .inl (T 0, 60, .inl (upd (upd ft (20 + mm) ((ft (20 + mm)) + (nI 1))) (40 + mm) (((upd ft (20 + mm) ((ft (20 + mm)) + (nI 1))) (40 + mm)) + (pBC ((vWq fq fr fb r mm) 9)))))), (ar, .inl (T 0, 30, .inl (vWr fq fr fb r mm))), (ab, .inl (T 0, 3, .inl fb))] H := hP
        have hD : va_D A [(aq, .inl (T 0, 12, .inl (vWq fq fr fb r mm))), (at9, .inl (T 0, 60, .inl (upd (upd ft (20 + mm) ((ft (20 + mm)) + (nI 1))) (40 + mm) (((upd ft (20 + mm) ((ft (20 + mm)) + (nI 1))) (40 + mm)) + (pBC ((vWq fq fr fb r mm) 9)))))), (ar, .inl (T 0, 30, .inl (vWr fq fr fb r mm))), (ab, .inl (T 0, 3, .inl fb))] := hD
        have hP : va_P G vwCl [(aq, .inl (T 0, 12, .inl (vWq fq fr fb r mm))), (at9, .inl (T 0, 60, .inl (vWt fq ft fr fb r mm))), (ar, .inl (T 0, 30, .inl (vWr fq fr fb r mm))), (ab, .inl (T 0, 3, .inl fb))] H := hP
        have hD : va_D A [(aq, .inl (T 0, 12, .inl (vWq fq fr fb r mm))), (at9, .inl (T 0, 60, .inl (vWt fq ft fr fb r mm))), (ar, .inl (T 0, 30, .inl (vWr fq fr fb r mm))), (ab, .inl (T 0, 3, .inl fb))] := hD
        refine lv_aload_n hx hb dL_whistles_229 rfl (lv_at hl 4 rfl) ?_
        refine lv_bipush (v := nI 9) hx hb dL_whistles_230 (by decide) ?_
        refine n_iald hx hb hK hP 0 0 rfl rfl 9 (by decide) (by decide) dL_whistles_232 ?_
        refine k_roS (As := [.int ((vWq fq fr fb r mm) 9)]) (rest := []) (wc := []) (d := 0) (v := pBC ((vWq fq fr fb r mm) 9)) cx (c_L_ones l G T A ((vWq fq fr fb r mm) 9) hz1) (va_cwS 1 hts gL_whistles_L_ones rfl rfl rfl (by decide +kernel) ⟨Nat.le_of_ble_eq_true rfl, Nat.le_of_ble_eq_true rfl⟩) (hP.sub (ws' := []) [] rfl) hK (hE.kept hS.2.1) rfl hl.1 rfl (Nat.le_of_ble_eq_true rfl) dL_whistles_233 ⟨Nat.le_of_ble_eq_true rfl, Nat.le_of_ble_eq_true rfl⟩ ?_
        subst hQ
        have hP9 : va_P G vwCl ([(aq, .inl (T 0, 12, .inl (vWq fq fr fb r mm)))] ++ [(at9, .inl (T 0, 60, .inl (vWt fq ft fr fb r mm)))] ++ [(ar, .inl (T 0, 30, .inl (vWr fq fr fb r mm)))] ++ [(ab, .inl (T 0, 3, .inl fb))]) H := hP
        have hD9 : va_D A ([(aq, .inl (T 0, 12, .inl (vWq fq fr fb r mm)))] ++ [(at9, .inl (T 0, 60, .inl (vWt fq ft fr fb r mm)))] ++ [(ar, .inl (T 0, 30, .inl (vWr fq fr fb r mm)))] ++ [(ab, .inl (T 0, 3, .inl fb))]) := hD
        exact e_rwi hx hb hr hlocks hS rfl hP9 hD9 dL_whistles_236
      · skip
        refine lv_aload_n hx hb dL_whistles_104 rfl (lv_at hl 4 rfl) ?_
        refine lv_bipush (v := nI 9) hx hb dL_whistles_105 (by decide) ?_
        refine n_iald hx hb hK hP 0 0 rfl rfl 9 (by decide) (by decide) dL_whistles_107 ?_
        refine lv_iload hx hb dL_whistles_108 (lv_at hl 0 rfl) ?_
        refine x_ishr hx hb dL_whistles_110 ?_
        refine n_iconst hx hb 1 dL_whistles_111 (by decide) ?_
        refine lv_iand hx hb dL_whistles_112 ?_
        refine lv_istore (lv' := [(8, .int ((iShr ((vW5 fq fr fb r mm) 9) (nI k)) &&& (nI 1))), (7, .int (nI k)), (6, .int (vBr (vW5 fq fr fb r mm) fr fb r mm 0)), (0, .int (nI r)), (1, .int (nI mm)), (2, .ref aq), (3, .ref at9), (4, .ref ar), (5, .ref ab)]) hx hb dL_whistles_113 hl (by decide) rfl (fun ls hl => ?_)
        refine lv_aload hx hb dL_whistles_115 (lv_at hl 7 rfl) ?_
        refine n_iconst hx hb 5 dL_whistles_117 (by decide) ?_
        refine lv_iload hx hb dL_whistles_118 (lv_at hl 1 rfl) ?_
        refine n_imul (a := 5) (b := k) hx hb dL_whistles_120 ?_
        refine n_iconst hx hb 3 dL_whistles_121 (by decide) ?_
        refine n_iadd (a := 5 * k) (b := 3) hx hb dL_whistles_122 ?_
        refine lv_dup2_11 hx hb dL_whistles_123 rfl rfl ?_
        refine n_iald hx hb hK hP 2 0 rfl rfl (5 * k + 3) (by omega) (by decide) dL_whistles_124 ?_
        refine lv_iload hx hb dL_whistles_125 (lv_at hl 0 rfl) ?_
        refine lv_iadd hx hb dL_whistles_127 ?_
        refine n_iast hx hb hK hP hD hS 2 0 rfl rfl (5 * k + 3) (by omega) (by decide) dL_whistles_128 (fun H locs hP hD hS => ?_)
        have hP : va_P G vwCl [(aq, .inl (T 0, 12, .inl (vW5 fq fr fb r mm))), (at9, .inl (T 0, 60, .inl ft)), (ar, .inl (T 0, 30, .inl (upd (vRL (vW5 fq fr fb r mm) fr (vWh fq fr fb r mm) k) (5 * k + 3) (((vRL (vW5 fq fr fb r mm) fr (vWh fq fr fb r mm) k) (5 * k + 3)) + ((iShr ((vW5 fq fr fb r mm) 9) (nI k)) &&& (nI 1)))))), (ab, .inl (T 0, 3, .inl fb))] H := hP
        have hD : va_D A [(aq, .inl (T 0, 12, .inl (vW5 fq fr fb r mm))), (at9, .inl (T 0, 60, .inl ft)), (ar, .inl (T 0, 30, .inl (upd (vRL (vW5 fq fr fb r mm) fr (vWh fq fr fb r mm) k) (5 * k + 3) (((vRL (vW5 fq fr fb r mm) fr (vWh fq fr fb r mm) k) (5 * k + 3)) + ((iShr ((vW5 fq fr fb r mm) 9) (nI k)) &&& (nI 1)))))), (ab, .inl (T 0, 3, .inl fb))] := hD
        refine lv_aload hx hb dL_whistles_129 (lv_at hl 7 rfl) ?_
        refine n_iconst hx hb 5 dL_whistles_131 (by decide) ?_
        refine lv_iload hx hb dL_whistles_132 (lv_at hl 1 rfl) ?_
        refine n_imul (a := 5) (b := k) hx hb dL_whistles_134 ?_
        refine n_iconst hx hb 4 dL_whistles_135 (by decide) ?_
        refine n_iadd (a := 5 * k) (b := 4) hx hb dL_whistles_136 ?_
        refine lv_dup2_11 hx hb dL_whistles_137 rfl rfl ?_
        refine n_iald hx hb hK hP 2 0 rfl rfl (5 * k + 4) (by omega) (by decide) dL_whistles_138 ?_
        refine lv_iload hx hb dL_whistles_139 (lv_at hl 2 rfl) ?_
        refine lv_iload hx hb dL_whistles_141 (lv_at hl 1 rfl) ?_
        refine x_ishr hx hb dL_whistles_143 ?_
        refine n_iconst hx hb 1 dL_whistles_144 (by decide) ?_
        refine lv_iand hx hb dL_whistles_145 ?_
        refine lv_iload hx hb dL_whistles_146 (lv_at hl 0 rfl) ?_
        refine lv_isub hx hb dL_whistles_148 ?_
        refine lv_iadd hx hb dL_whistles_149 ?_
        refine n_iast hx hb hK hP hD hS 2 0 rfl rfl (5 * k + 4) (by omega) (by decide) dL_whistles_150 (fun H locs hP hD hS => ?_)
        have hP : va_P G vwCl [(aq, .inl (T 0, 12, .inl (vW5 fq fr fb r mm))), (at9, .inl (T 0, 60, .inl ft)), (ar, .inl (T 0, 30, .inl (upd (upd (vRL (vW5 fq fr fb r mm) fr (vWh fq fr fb r mm) k) (5 * k + 3) (((vRL (vW5 fq fr fb r mm) fr (vWh fq fr fb r mm) k) (5 * k + 3)) + ((iShr ((vW5 fq fr fb r mm) 9) (nI k)) &&& (nI 1)))) (5 * k + 4) (((upd (vRL (vW5 fq fr fb r mm) fr (vWh fq fr fb r mm) k) (5 * k + 3) (((vRL (vW5 fq fr fb r mm) fr (vWh fq fr fb r mm) k) (5 * k + 3)) + ((iShr ((vW5 fq fr fb r mm) 9) (nI k)) &&& (nI 1)))) (5 * k + 4)) + (((iShr (vBr (vW5 fq fr fb r mm) fr fb r mm 0) (nI k)) &&& (nI 1)) - ((iShr ((vW5 fq fr fb r mm) 9) (nI k)) &&& (nI 1))))))), (ab, .inl (T 0, 3, .inl fb))] H := hP
        have hD : va_D A [(aq, .inl (T 0, 12, .inl (vW5 fq fr fb r mm))), (at9, .inl (T 0, 60, .inl ft)), (ar, .inl (T 0, 30, .inl (upd (upd (vRL (vW5 fq fr fb r mm) fr (vWh fq fr fb r mm) k) (5 * k + 3) (((vRL (vW5 fq fr fb r mm) fr (vWh fq fr fb r mm) k) (5 * k + 3)) + ((iShr ((vW5 fq fr fb r mm) 9) (nI k)) &&& (nI 1)))) (5 * k + 4) (((upd (vRL (vW5 fq fr fb r mm) fr (vWh fq fr fb r mm) k) (5 * k + 3) (((vRL (vW5 fq fr fb r mm) fr (vWh fq fr fb r mm) k) (5 * k + 3)) + ((iShr ((vW5 fq fr fb r mm) 9) (nI k)) &&& (nI 1)))) (5 * k + 4)) + (((iShr (vBr (vW5 fq fr fb r mm) fr fb r mm 0) (nI k)) &&& (nI 1)) - ((iShr ((vW5 fq fr fb r mm) 9) (nI k)) &&& (nI 1))))))), (ab, .inl (T 0, 3, .inl fb))] := hD
        refine lv_aload hx hb dL_whistles_151 (lv_at hl 7 rfl) ?_
        refine n_iconst hx hb 5 dL_whistles_153 (by decide) ?_
        refine lv_iload hx hb dL_whistles_154 (lv_at hl 1 rfl) ?_
        refine n_imul (a := 5) (b := k) hx hb dL_whistles_156 ?_
        refine n_iconst hx hb 2 dL_whistles_157 (by decide) ?_
        refine n_iadd (a := 5 * k) (b := 2) hx hb dL_whistles_158 ?_
        refine lv_dup2_11 hx hb dL_whistles_159 rfl rfl ?_
        refine n_iald hx hb hK hP 2 0 rfl rfl (5 * k + 2) (by omega) (by decide) dL_whistles_160 ?_
        refine lv_aload_n hx hb dL_whistles_161 rfl (lv_at hl 5 rfl) ?_
        refine lv_bipush (v := nI 11) hx hb dL_whistles_162 (by decide) ?_
        refine n_iald hx hb hK hP 0 0 rfl rfl 11 (by decide) (by decide) dL_whistles_164 ?_
        refine lv_iload hx hb dL_whistles_165 (lv_at hl 1 rfl) ?_
        refine x_ishr hx hb dL_whistles_167 ?_
        refine n_iconst hx hb 1 dL_whistles_168 (by decide) ?_
        refine lv_iand hx hb dL_whistles_169 ?_
        refine lv_ior hx hb dL_whistles_170 ?_
        refine n_iast hx hb hK hP hD hS 2 0 rfl rfl (5 * k + 2) (by omega) (by decide) dL_whistles_171 (fun H locs hP hD hS => ?_)
        have hP : va_P G vwCl [(aq, .inl (T 0, 12, .inl (vW5 fq fr fb r mm))), (at9, .inl (T 0, 60, .inl ft)), (ar, .inl (T 0, 30, .inl (upd (upd (upd (vRL (vW5 fq fr fb r mm) fr (vWh fq fr fb r mm) k) (5 * k + 3) (((vRL (vW5 fq fr fb r mm) fr (vWh fq fr fb r mm) k) (5 * k + 3)) + ((iShr ((vW5 fq fr fb r mm) 9) (nI k)) &&& (nI 1)))) (5 * k + 4) (((upd (vRL (vW5 fq fr fb r mm) fr (vWh fq fr fb r mm) k) (5 * k + 3) (((vRL (vW5 fq fr fb r mm) fr (vWh fq fr fb r mm) k) (5 * k + 3)) + ((iShr ((vW5 fq fr fb r mm) 9) (nI k)) &&& (nI 1)))) (5 * k + 4)) + (((iShr (vBr (vW5 fq fr fb r mm) fr fb r mm 0) (nI k)) &&& (nI 1)) - ((iShr ((vW5 fq fr fb r mm) 9) (nI k)) &&& (nI 1))))) (5 * k + 2) (((upd (upd (vRL (vW5 fq fr fb r mm) fr (vWh fq fr fb r mm) k) (5 * k + 3) (((vRL (vW5 fq fr fb r mm) fr (vWh fq fr fb r mm) k) (5 * k + 3)) + ((iShr ((vW5 fq fr fb r mm) 9) (nI k)) &&& (nI 1)))) (5 * k + 4) (((upd (vRL (vW5 fq fr fb r mm) fr (vWh fq fr fb r mm) k) (5 * k + 3) (((vRL (vW5 fq fr fb r mm) fr (vWh fq fr fb r mm) k) (5 * k + 3)) + ((iShr ((vW5 fq fr fb r mm) 9) (nI k)) &&& (nI 1)))) (5 * k + 4)) + (((iShr (vBr (vW5 fq fr fb r mm) fr fb r mm 0) (nI k)) &&& (nI 1)) - ((iShr ((vW5 fq fr fb r mm) 9) (nI k)) &&& (nI 1))))) (5 * k + 2)) ||| ((iShr ((vW5 fq fr fb r mm) 11) (nI k)) &&& (nI 1)))))), (ab, .inl (T 0, 3, .inl fb))] H := hP
        have hD : va_D A [(aq, .inl (T 0, 12, .inl (vW5 fq fr fb r mm))), (at9, .inl (T 0, 60, .inl ft)), (ar, .inl (T 0, 30, .inl (upd (upd (upd (vRL (vW5 fq fr fb r mm) fr (vWh fq fr fb r mm) k) (5 * k + 3) (((vRL (vW5 fq fr fb r mm) fr (vWh fq fr fb r mm) k) (5 * k + 3)) + ((iShr ((vW5 fq fr fb r mm) 9) (nI k)) &&& (nI 1)))) (5 * k + 4) (((upd (vRL (vW5 fq fr fb r mm) fr (vWh fq fr fb r mm) k) (5 * k + 3) (((vRL (vW5 fq fr fb r mm) fr (vWh fq fr fb r mm) k) (5 * k + 3)) + ((iShr ((vW5 fq fr fb r mm) 9) (nI k)) &&& (nI 1)))) (5 * k + 4)) + (((iShr (vBr (vW5 fq fr fb r mm) fr fb r mm 0) (nI k)) &&& (nI 1)) - ((iShr ((vW5 fq fr fb r mm) 9) (nI k)) &&& (nI 1))))) (5 * k + 2) (((upd (upd (vRL (vW5 fq fr fb r mm) fr (vWh fq fr fb r mm) k) (5 * k + 3) (((vRL (vW5 fq fr fb r mm) fr (vWh fq fr fb r mm) k) (5 * k + 3)) + ((iShr ((vW5 fq fr fb r mm) 9) (nI k)) &&& (nI 1)))) (5 * k + 4) (((upd (vRL (vW5 fq fr fb r mm) fr (vWh fq fr fb r mm) k) (5 * k + 3) (((vRL (vW5 fq fr fb r mm) fr (vWh fq fr fb r mm) k) (5 * k + 3)) + ((iShr ((vW5 fq fr fb r mm) 9) (nI k)) &&& (nI 1)))) (5 * k + 4)) + (((iShr (vBr (vW5 fq fr fb r mm) fr fb r mm 0) (nI k)) &&& (nI 1)) - ((iShr ((vW5 fq fr fb r mm) 9) (nI k)) &&& (nI 1))))) (5 * k + 2)) ||| ((iShr ((vW5 fq fr fb r mm) 11) (nI k)) &&& (nI 1)))))), (ab, .inl (T 0, 3, .inl fb))] := hD
        refine lv_iinc (v := nI (k + 1)) (lv' := [(7, .int (nI (k + 1))), (8, .int ((iShr ((vW5 fq fr fb r mm) 9) (nI k)) &&& (nI 1))), (6, .int (vBr (vW5 fq fr fb r mm) fr fb r mm 0)), (0, .int (nI r)), (1, .int (nI mm)), (2, .ref aq), (3, .ref at9), (4, .ref ar), (5, .ref ab)]) hx hb dL_whistles_172 hl (k := 1) rfl (n_inc k 1 rfl) (by decide) rfl (fun ls hl => ?_)
        refine lv_goto (tgt := 97) hx hb dL_whistles_175 (by decide) ?_
        have e_6 : (upd (upd (upd (vRL (vW5 fq fr fb r mm) fr (vWh fq fr fb r mm) k) (5 * k + 3) (((vRL (vW5 fq fr fb r mm) fr (vWh fq fr fb r mm) k) (5 * k + 3)) + ((iShr ((vW5 fq fr fb r mm) 9) (nI k)) &&& (nI 1)))) (5 * k + 4) (((upd (vRL (vW5 fq fr fb r mm) fr (vWh fq fr fb r mm) k) (5 * k + 3) (((vRL (vW5 fq fr fb r mm) fr (vWh fq fr fb r mm) k) (5 * k + 3)) + ((iShr ((vW5 fq fr fb r mm) 9) (nI k)) &&& (nI 1)))) (5 * k + 4)) + (((iShr (vBr (vW5 fq fr fb r mm) fr fb r mm 0) (nI k)) &&& (nI 1)) - ((iShr ((vW5 fq fr fb r mm) 9) (nI k)) &&& (nI 1))))) (5 * k + 2) (((upd (upd (vRL (vW5 fq fr fb r mm) fr (vWh fq fr fb r mm) k) (5 * k + 3) (((vRL (vW5 fq fr fb r mm) fr (vWh fq fr fb r mm) k) (5 * k + 3)) + ((iShr ((vW5 fq fr fb r mm) 9) (nI k)) &&& (nI 1)))) (5 * k + 4) (((upd (vRL (vW5 fq fr fb r mm) fr (vWh fq fr fb r mm) k) (5 * k + 3) (((vRL (vW5 fq fr fb r mm) fr (vWh fq fr fb r mm) k) (5 * k + 3)) + ((iShr ((vW5 fq fr fb r mm) 9) (nI k)) &&& (nI 1)))) (5 * k + 4)) + (((iShr (vBr (vW5 fq fr fb r mm) fr fb r mm 0) (nI k)) &&& (nI 1)) - ((iShr ((vW5 fq fr fb r mm) 9) (nI k)) &&& (nI 1))))) (5 * k + 2)) ||| ((iShr ((vW5 fq fr fb r mm) 11) (nI k)) &&& (nI 1)))) = vRL (vW5 fq fr fb r mm) fr (vWh fq fr fb r mm) (k + 1) := rfl
        exact ih97 (k + 1) (by omega) (by omega) _ _ rfl e_6 _ _ hP hD hS _ (lv_sub hl [0, 2, 3, 4, 5, 6, 7, 8] rfl)
  exact L97 (6 + 1) 0 (by omega) (by omega) _ _ rfl rfl _ _ hP hD hS _ (lv_sub hl [0, 1, 2, 3, 4, 5, 6, 7] rfl)
set_option maxHeartbeats 4000000 in
set_option maxRecDepth 100000 in
theorem c_L_whistles_no (l : Launch) (G : va_G) (T : Nat → ClassId) (sz : Nat) (aq : Nat) (fq : Nat → Int32) (at9 : Nat) (ft : Nat → Int32) (ar : Nat) (fr : Nat → Int32) (ab : Nat) (fb : Nat → Int32) (tn : Nat → Nat) (r : Nat) (mm : Nat) (htn : ∀ i : Nat, i < 20 → ft i = nI (tn i)) (htn9 : ∀ i : Nat, i < 20 → tn i < 167772160) (hr6 : r < 6) (hm20 : mm < 20) (hwn : ¬ vWy fq fr tn r mm = nI 0) : RWi l yL_whistles wsL_whistles 2 0 0 G T sz ([(aq, .inl (T 0, 12, .inl fq))] ++ [(at9, .inl (T 0, 60, .inl ft))] ++ [(ar, .inl (T 0, 30, .inl fr))] ++ [(ab, .inl (T 0, 3, .inl fb))]) [.int (nI r), .int (nI mm), .ref aq, .ref at9, .ref ar, .ref ab] (-103) ([(aq, .inl (T 0, 12, .inl fq))] ++ [(at9, .inl (T 0, 60, .inl ft))] ++ [(ar, .inl (T 0, 30, .inl fr))] ++ [(ab, .inl (T 0, 3, .inl fb))]) := by
  refine Met.ofW (cc := cL_whistles) (maxL := 9) (ret := (some .int)) (by decide) rfl ?_
  intro p e s m args below meth c s₁ B hml hv
  obtain ⟨ha, hsz, hP, hK, hD0, hE0⟩ := hv
  have hx := B.exec
  have hb := B.bytes
  have hr := B.returns
  have hlocks := B.notSynchronized
  have hts := atoms_spec (ws := wsL_whistles) B.pre
  have hown : s.vm.findClass RL = some m.cls := findClass_of_methodNamed B.named
  have cx : CallFix p m c cL_whistles 9 s args wsL_whistles RL := ⟨hx, hb, hml, hown, hts⟩
  subst hsz
  have hD := hD0.self (sz := s.heap.size)
  generalize hAe : va_A ([(aq, .inl (T 0, 12, .inl fq))] ++ [(at9, .inl (T 0, 60, .inl ft))] ++ [(ar, .inl (T 0, 30, .inl fr))] ++ [(ab, .inl (T 0, 3, .inl fb))]) s.heap.size = A at hD hE0 ⊢
  have hE : gE A s s.heap := hE0
  have hA : ∀ q : Nat, s.heap.size ≤ q → A q := fun q h => by rw [← hAe]; exact Or.inr h
  have hS : va_S A s.heap s.heap [] := va_S.rf
  refine w_entry ha (Nat.le_of_ble_eq_true rfl) (fun ls hl => ?_)
  refine w_q (fun Q0 hQ => ?_)
  have hl : lv_has ls 9 [(0, .int (nI r)), (1, .int (nI mm)), (2, .ref aq), (3, .ref at9), (4, .ref ar), (5, .ref ab)] := hl
  have hP : va_P G vwCl [(aq, .inl (T 0, 12, .inl fq)), (at9, .inl (T 0, 60, .inl ft)), (ar, .inl (T 0, 30, .inl fr)), (ab, .inl (T 0, 3, .inl fb))] s.heap := hP
  have hD : va_D A [(aq, .inl (T 0, 12, .inl fq)), (at9, .inl (T 0, 60, .inl ft)), (ar, .inl (T 0, 30, .inl fr)), (ab, .inl (T 0, 3, .inl fb))] := hD
  skip
  refine w_h (fun H locs hHe hLe => ?_)
  have hP : va_P G vwCl [(aq, .inl (T 0, 12, .inl fq)), (at9, .inl (T 0, 60, .inl ft)), (ar, .inl (T 0, 30, .inl fr)), (ab, .inl (T 0, 3, .inl fb))] H := by rw [hHe]; exact hP
  have hS : va_S A s.heap H locs := by rw [hHe, hLe]; exact hS
  refine lv_iload_n hx hb dL_whistles_0 rfl (lv_at hl 0 rfl) ?_
  refine lv_iload_n hx hb dL_whistles_1 rfl (lv_at hl 1 rfl) ?_
  refine lv_aload_n hx hb dL_whistles_2 rfl (lv_at hl 2 rfl) ?_
  refine lv_aload_n hx hb dL_whistles_3 rfl (lv_at hl 3 rfl) ?_
  refine lv_aload hx hb dL_whistles_4 (lv_at hl 4 rfl) ?_
  refine k_roS (As := [.int (nI r), .int (nI mm), .ref aq, .ref at9, .ref ar]) (rest := []) (wc := [(aq, .inl (T 0, 12, .inl fq))] ++ [(at9, .inl (T 0, 60, .inl ft))] ++ [(ar, .inl (T 0, 30, .inl fr))]) (d := 0) (v := vWy fq fr tn r mm) cx (c_L_why l G T A aq fq at9 ft ar fr tn r mm (by first | assumption | rfl | omega) (by omega) (by omega) (by omega)) (va_cwS 5 hts gL_whistles_L_why rfl rfl rfl (by decide +kernel) ⟨Nat.le_of_ble_eq_true rfl, Nat.le_of_ble_eq_true rfl⟩) (hP.sub (ws' := [(aq, .inl (T 0, 12, .inl fq))] ++ [(at9, .inl (T 0, 60, .inl ft))] ++ [(ar, .inl (T 0, 30, .inl fr))]) [0, 1, 2] rfl) hK (hE.kept hS.2.1) rfl hl.1 rfl (Nat.le_of_ble_eq_true rfl) dL_whistles_6 ⟨Nat.le_of_ble_eq_true rfl, Nat.le_of_ble_eq_true rfl⟩ ?_
  refine lv_if_le (tgt := 15) hx hb dL_whistles_9 (by decide) (fun c_1 => by exfalso; rcases vWy_c fq fr tn r mm with h9 | h9 | h9; exact hwn h9; (rw [h9] at c_1; exact absurd c_1 (by decide)); (rw [h9] at c_1; exact absurd c_1 (by decide))) (fun c_2 => ?_)
  refine lv_bipush (v := (-103)) hx hb dL_whistles_12 (by decide) ?_
  subst hQ
  have hP9 : va_P G vwCl ([(aq, .inl (T 0, 12, .inl fq))] ++ [(at9, .inl (T 0, 60, .inl ft))] ++ [(ar, .inl (T 0, 30, .inl fr))] ++ [(ab, .inl (T 0, 3, .inl fb))]) H := hP
  have hD9 : va_D A ([(aq, .inl (T 0, 12, .inl fq))] ++ [(at9, .inl (T 0, 60, .inl ft))] ++ [(ar, .inl (T 0, 30, .inl fr))] ++ [(ab, .inl (T 0, 3, .inl fb))]) := hD
  exact e_rwi hx hb hr hlocks hS rfl hP9 hD9 dL_whistles_14
set_option maxHeartbeats 4000000 in
set_option maxRecDepth 100000 in
theorem c_L_due_0 (l : Launch) (G : va_G) (T : Nat → ClassId) (sz : Nat) (aq : Nat) (fq : Nat → Int32) (at9 : Nat) (ft : Nat → Int32) (ar : Nat) (fr : Nat → Int32) (ab : Nat) (fb : Nat → Int32) (tn : Nat → Nat) (a : Nat) (ee : Nat) (tu : Nat) (htn : ∀ i : Nat, i < 20 → ft i = nI (tn i)) (htn9 : ∀ i : Nat, i < 20 → tn i < 167772160) (htu : tu < 167772160) (ha20 : a < 20) : RWi l yL_due wsL_due 3 0 0 G T sz ([(aq, .inl (T 0, 12, .inl fq))] ++ [(at9, .inl (T 0, 60, .inl ft))] ++ [(ar, .inl (T 0, 30, .inl fr))] ++ [(ab, .inl (T 0, 3, .inl fb))]) [.int (nI 0), .int (nI a), .int (nI ee), .int (nI tu), .ref aq, .ref at9, .ref ar, .ref ab] (if vIl tn a tu 20 = true then nI (uMy tu) else (-103)) ([(aq, .inl (T 0, 12, .inl fq))] ++ [(at9, .inl (T 0, 60, .inl (vD0t ft tn a tu)))] ++ [(ar, .inl (T 0, 30, .inl fr))] ++ [(ab, .inl (T 0, 3, .inl fb))]) := by
  refine Met.ofW (cc := cL_due) (maxL := 11) (ret := (some .int)) (by decide) rfl ?_
  intro p e s m args below meth c s₁ B hml hv
  obtain ⟨ha, hsz, hP, hK, hD0, hE0⟩ := hv
  have hx := B.exec
  have hb := B.bytes
  have hr := B.returns
  have hlocks := B.notSynchronized
  have hts := atoms_spec (ws := wsL_due) B.pre
  have hown : s.vm.findClass RL = some m.cls := findClass_of_methodNamed B.named
  have cx : CallFix p m c cL_due 11 s args wsL_due RL := ⟨hx, hb, hml, hown, hts⟩
  subst hsz
  have hD := hD0.self (sz := s.heap.size)
  generalize hAe : va_A ([(aq, .inl (T 0, 12, .inl fq))] ++ [(at9, .inl (T 0, 60, .inl ft))] ++ [(ar, .inl (T 0, 30, .inl fr))] ++ [(ab, .inl (T 0, 3, .inl fb))]) s.heap.size = A at hD hE0 ⊢
  have hE : gE A s s.heap := hE0
  have hA : ∀ q : Nat, s.heap.size ≤ q → A q := fun q h => by rw [← hAe]; exact Or.inr h
  have hS : va_S A s.heap s.heap [] := va_S.rf
  refine w_entry ha (Nat.le_of_ble_eq_true rfl) (fun ls hl => ?_)
  refine w_q (fun Q0 hQ => ?_)
  have hl : lv_has ls 11 [(0, .int (nI 0)), (1, .int (nI a)), (2, .int (nI ee)), (3, .int (nI tu)), (4, .ref aq), (5, .ref at9), (6, .ref ar), (7, .ref ab)] := hl
  have hP : va_P G vwCl [(aq, .inl (T 0, 12, .inl fq)), (at9, .inl (T 0, 60, .inl ft)), (ar, .inl (T 0, 30, .inl fr)), (ab, .inl (T 0, 3, .inl fb))] s.heap := hP
  have hD : va_D A [(aq, .inl (T 0, 12, .inl fq)), (at9, .inl (T 0, 60, .inl ft)), (ar, .inl (T 0, 30, .inl fr)), (ab, .inl (T 0, 3, .inl fb))] := hD
  skip
  have hmu := uMy_9 htu
  refine w_h (fun H locs hHe hLe => ?_)
  have hP : va_P G vwCl [(aq, .inl (T 0, 12, .inl fq)), (at9, .inl (T 0, 60, .inl ft)), (ar, .inl (T 0, 30, .inl fr)), (ab, .inl (T 0, 3, .inl fb))] H := by rw [hHe]; exact hP
  have hS : va_S A s.heap H locs := by rw [hHe, hLe]; exact hS
  refine lv_iload_n hx hb dL_due_0 rfl (lv_at hl 0 rfl) ?_
  refine n_iconst hx hb 2 dL_due_1 (by decide) ?_
  refine n_icmp_ne (a := 0) (b := 2) (tgt := 14) hx hb (by decide) (by decide) dL_due_2 (by decide) (fun c_1 => ?_) (fun h9 => absurd h9 (by decide))
  refine lv_iload_n hx hb dL_due_14 rfl (lv_at hl 0 rfl) ?_
  refine n_iconst hx hb 3 dL_due_15 (by decide) ?_
  refine n_icmp_ne (a := 0) (b := 3) (tgt := 26) hx hb (by decide) (by decide) dL_due_16 (by decide) (fun c_2 => ?_) (fun h9 => absurd h9 (by decide))
  refine lv_iload_n hx hb dL_due_26 rfl (lv_at hl 0 rfl) ?_
  refine lv_bipush (v := nI 7) hx hb dL_due_27 (by decide) ?_
  refine n_icmp_ne (a := 0) (b := 7) (tgt := 41) hx hb (by decide) (by decide) dL_due_29 (by decide) (fun c_3 => ?_) (fun h9 => absurd h9 (by decide))
  refine lv_iload_n hx hb dL_due_41 rfl (lv_at hl 0 rfl) ?_
  refine lv_bipush (v := nI 8) hx hb dL_due_42 (by decide) ?_
  refine n_icmp_ne (a := 0) (b := 8) (tgt := 57) hx hb (by decide) (by decide) dL_due_44 (by decide) (fun c_4 => ?_) (fun h9 => absurd h9 (by decide))
  refine n_iconst hx hb 0 dL_due_57 (by decide) ?_
  refine lv_istore (lv' := [(8, .int (nI 0)), (0, .int (nI 0)), (1, .int (nI a)), (2, .int (nI ee)), (3, .int (nI tu)), (4, .ref aq), (5, .ref at9), (6, .ref ar), (7, .ref ab)]) hx hb dL_due_58 hl (by decide) rfl (fun ls hl => ?_)
  refine lv_iload_n hx hb dL_due_60 rfl (lv_at hl 1 rfl) ?_
  refine n_tab (a := 0) (off := 47) (tgt := 108) hx hb (by decide) dL_due_61 (by decide) (by decide) rfl (by decide) ?_
  refine lv_iload_n hx hb dL_due_108 rfl (lv_at hl 4 rfl) ?_
  refine k_roS (As := [.int (nI tu)]) (rest := []) (wc := []) (d := 0) (v := nI (uMy tu)) cx (c_L_many l G T A tu (by omega)) (va_cwS 1 hts gL_due_L_many rfl rfl rfl (by decide +kernel) ⟨Nat.le_of_ble_eq_true rfl, Nat.le_of_ble_eq_true rfl⟩) (hP.sub (ws' := []) [] rfl) hK (hE.kept hS.2.1) rfl hl.1 rfl (Nat.le_of_ble_eq_true rfl) dL_due_109 ⟨Nat.le_of_ble_eq_true rfl, Nat.le_of_ble_eq_true rfl⟩ ?_
  refine n_iconst hx hb 1 dL_due_112 (by decide) ?_
  have J_5 : ∀ y9 : Int32, y9 = (bI (vIs tu)) → W p l e (headSpec wsL_due (rmD 3 0 0)).room s m args below meth c H locs 0 0 Q0 (F0 m 130 ls (.int y9 :: [])) := by
    intro y9 hy9
    subst hy9
    refine lv_istore (lv' := [(9, .int (bI (vIs tu))), (8, .int (nI 0)), (0, .int (nI 0)), (1, .int (nI a)), (2, .int (nI ee)), (3, .int (nI tu)), (4, .ref aq), (5, .ref at9), (6, .ref ar), (7, .ref ab)]) hx hb dL_due_130 hl (by decide) rfl (fun ls hl => ?_)
    refine n_iconst hx hb 0 dL_due_132 (by decide) ?_
    refine lv_istore (lv' := [(10, .int (nI 0)), (9, .int (bI (vIs tu))), (8, .int (nI 0)), (0, .int (nI 0)), (1, .int (nI a)), (2, .int (nI ee)), (3, .int (nI tu)), (4, .ref aq), (5, .ref at9), (6, .ref ar), (7, .ref ab)]) hx hb dL_due_133 hl (by decide) rfl (fun ls hl => ?_)
    have L135 : ∀ (n9 k : Nat) (hk1 : k ≤ 20) (hk2 : 20 - k < n9) (x10 : Int32) (x9 : Int32) (hx10 : x10 = nI k) (hx9 : x9 = bI (vIl tn a tu k)) (H : Heap) (locs : List Loc) (hP : va_P G vwCl [(aq, .inl (T 0, 12, .inl fq)), (at9, .inl (T 0, 60, .inl ft)), (ar, .inl (T 0, 30, .inl fr)), (ab, .inl (T 0, 3, .inl fb))] H) (hD : va_D A [(aq, .inl (T 0, 12, .inl fq)), (at9, .inl (T 0, 60, .inl ft)), (ar, .inl (T 0, 30, .inl fr)), (ab, .inl (T 0, 3, .inl fb))]) (hS : va_S A s.heap H locs) (ls : Array Slot) (hl : lv_has ls 11 [(10, .int x10), (9, .int x9), (8, .int (nI 0)), (0, .int (nI 0)), (1, .int (nI a)), (2, .int (nI ee)), (3, .int (nI tu)), (4, .ref aq), (5, .ref at9), (6, .ref ar), (7, .ref ab)]), W p l e (headSpec wsL_due (rmD 3 0 0)).room s m args below meth c H locs 0 0 Q0 (F0 m 135 ls []) := by
      intro n9
      induction n9 with
      | zero => intros; omega
      | succ n9 ih135 =>
        intro k hk1 hk2 x10 x9 hx10 hx9 H locs hP hD hS ls hl
        subst hx10 hx9
        refine lv_iload hx hb dL_due_135 (lv_at hl 0 rfl) ?_
        refine lv_bipush (v := nI 20) hx hb dL_due_137 (by decide) ?_
        refine n_icmp_ge (a := k) (b := 20) (tgt := 178) hx hb (by omega) (by decide) dL_due_139 (by decide) (fun c_6 => ?_) (fun c_7 => ?_)
        · skip
          have hf : vIl tn a tu 20 = vIl tn a tu k := (by rcases Nat.lt_or_ge k 20 with h9 | h9; exact (by first | exact (vIl_f c_6 20 hk1).trans (c_6).symm | (exfalso; omega)); exact congrArg _ (by omega))
          refine lv_aload hx hb dL_due_178 (lv_at hl 8 rfl) ?_
          refine lv_iload_n hx hb dL_due_180 rfl (lv_at hl 4 rfl) ?_
          refine lv_iload hx hb dL_due_181 (lv_at hl 1 rfl) ?_
          have J_8 : ∀ y9 : Int32, y9 = (if vIl tn a tu k = true then nI tu else nI (tn a)) → W p l e (headSpec wsL_due (rmD 3 0 0)).room s m args below meth c H locs 0 0 Q0 (F0 m 194 ls (.int y9 :: .int (nI a) :: .ref at9 :: [])) := by
            intro y9 hy9
            subst hy9
            refine n_iast hx hb hK hP hD hS 1 0 rfl rfl a (by omega) (by decide) dL_due_194 (fun H locs hP hD hS => ?_)
            have hP : va_P G vwCl [(aq, .inl (T 0, 12, .inl fq)), (at9, .inl (T 0, 60, .inl (upd ft a (if vIl tn a tu k = true then nI tu else nI (tn a))))), (ar, .inl (T 0, 30, .inl fr)), (ab, .inl (T 0, 3, .inl fb))] H := hP
            have hD : va_D A [(aq, .inl (T 0, 12, .inl fq)), (at9, .inl (T 0, 60, .inl (upd ft a (if vIl tn a tu k = true then nI tu else nI (tn a))))), (ar, .inl (T 0, 30, .inl fr)), (ab, .inl (T 0, 3, .inl fb))] := hD
            refine lv_iload hx hb dL_due_195 (lv_at hl 1 rfl) ?_
            have J_9 : ∀ y9 : Int32, y9 = (if vIl tn a tu k = true then nI (uMy tu) else (-103)) → W p l e (headSpec wsL_due (rmD 3 0 0)).room s m args below meth c H locs 0 0 Q0 (F0 m 209 ls (.int y9 :: [])) := by
              intro y9 hy9
              subst hy9
              subst hQ
              have hP9 : va_P G vwCl ([(aq, .inl (T 0, 12, .inl fq))] ++ [(at9, .inl (T 0, 60, .inl (vD0t ft tn a tu)))] ++ [(ar, .inl (T 0, 30, .inl fr))] ++ [(ab, .inl (T 0, 3, .inl fb))]) H := (by unfold vD0t; rw [hf, htn a ha20]; exact hP)
              have hD9 : va_D A ([(aq, .inl (T 0, 12, .inl fq))] ++ [(at9, .inl (T 0, 60, .inl (vD0t ft tn a tu)))] ++ [(ar, .inl (T 0, 30, .inl fr))] ++ [(ab, .inl (T 0, 3, .inl fb))]) := (by unfold vD0t; rw [hf, htn a ha20]; exact hD)
              exact e_rwi hx hb hr hlocks hS (by rw [hf]) hP9 hD9 dL_due_209
            refine b_if_eq (b := vIl tn a tu k) (tgt := 207) hx hb dL_due_197 (by decide) (fun c_10 => ?_) (fun c_11 => ?_)
            · skip
              refine lv_bipush (v := (-103)) hx hb dL_due_207 (by decide) ?_
              exact J_9 _ (by first | rw [if_pos c_10] | rw [if_neg (by rw [c_10]; decide)])
            · skip
              refine lv_iload_n hx hb dL_due_200 rfl (lv_at hl 6 rfl) ?_
              refine k_roS (As := [.int (nI tu)]) (rest := []) (wc := []) (d := 0) (v := nI (uMy tu)) cx (c_L_many l G T A tu (by omega)) (va_cwS 1 hts gL_due_L_many rfl rfl rfl (by decide +kernel) ⟨Nat.le_of_ble_eq_true rfl, Nat.le_of_ble_eq_true rfl⟩) (hP.sub (ws' := []) [] rfl) hK (hE.kept hS.2.1) rfl hl.1 rfl (Nat.le_of_ble_eq_true rfl) dL_due_201 ⟨Nat.le_of_ble_eq_true rfl, Nat.le_of_ble_eq_true rfl⟩ ?_
              refine lv_goto (tgt := 209) hx hb dL_due_204 (by decide) ?_
              exact J_9 _ (by first | rw [if_pos c_11] | rw [if_neg (by rw [c_11]; decide)])
          refine b_if_eq (b := vIl tn a tu k) (tgt := 190) hx hb dL_due_183 (by decide) (fun c_12 => ?_) (fun c_13 => ?_)
          · skip
            refine lv_aload hx hb dL_due_190 (lv_at hl 8 rfl) ?_
            refine lv_iload_n hx hb dL_due_192 rfl (lv_at hl 4 rfl) ?_
            refine n_iald hx hb hK hP 1 0 rfl rfl a (by omega) (by decide) dL_due_193 ?_
            refine n_top (y := nI (tn a)) (htn _ (by omega)) ?_
            exact J_8 _ (by first | rw [if_pos c_12] | rw [if_neg (by rw [c_12]; decide)])
          · skip
            refine lv_iload_n hx hb dL_due_186 rfl (lv_at hl 6 rfl) ?_
            refine lv_goto (tgt := 194) hx hb dL_due_187 (by decide) ?_
            exact J_8 _ (by first | rw [if_pos c_13] | rw [if_neg (by rw [c_13]; decide)])
        · skip
          refine lv_iload hx hb dL_due_142 (lv_at hl 1 rfl) ?_
          refine b_if_eq (b := vIl tn a tu k) (tgt := 178) hx hb dL_due_144 (by decide) (fun c_14 => ?_) (fun c_15 => ?_)
          · skip
            have hf : vIl tn a tu 20 = vIl tn a tu k := (by rcases Nat.lt_or_ge k 20 with h9 | h9; exact (by first | exact (vIl_f c_14 20 hk1).trans (c_14).symm | (exfalso; omega)); exact congrArg _ (by omega))
            refine lv_aload hx hb dL_due_178 (lv_at hl 8 rfl) ?_
            refine lv_iload_n hx hb dL_due_180 rfl (lv_at hl 4 rfl) ?_
            refine lv_iload hx hb dL_due_181 (lv_at hl 1 rfl) ?_
            have J_16 : ∀ y9 : Int32, y9 = (if vIl tn a tu k = true then nI tu else nI (tn a)) → W p l e (headSpec wsL_due (rmD 3 0 0)).room s m args below meth c H locs 0 0 Q0 (F0 m 194 ls (.int y9 :: .int (nI a) :: .ref at9 :: [])) := by
              intro y9 hy9
              subst hy9
              refine n_iast hx hb hK hP hD hS 1 0 rfl rfl a (by omega) (by decide) dL_due_194 (fun H locs hP hD hS => ?_)
              have hP : va_P G vwCl [(aq, .inl (T 0, 12, .inl fq)), (at9, .inl (T 0, 60, .inl (upd ft a (if vIl tn a tu k = true then nI tu else nI (tn a))))), (ar, .inl (T 0, 30, .inl fr)), (ab, .inl (T 0, 3, .inl fb))] H := hP
              have hD : va_D A [(aq, .inl (T 0, 12, .inl fq)), (at9, .inl (T 0, 60, .inl (upd ft a (if vIl tn a tu k = true then nI tu else nI (tn a))))), (ar, .inl (T 0, 30, .inl fr)), (ab, .inl (T 0, 3, .inl fb))] := hD
              refine lv_iload hx hb dL_due_195 (lv_at hl 1 rfl) ?_
              have J_17 : ∀ y9 : Int32, y9 = (if vIl tn a tu k = true then nI (uMy tu) else (-103)) → W p l e (headSpec wsL_due (rmD 3 0 0)).room s m args below meth c H locs 0 0 Q0 (F0 m 209 ls (.int y9 :: [])) := by
                intro y9 hy9
                subst hy9
                subst hQ
                have hP9 : va_P G vwCl ([(aq, .inl (T 0, 12, .inl fq))] ++ [(at9, .inl (T 0, 60, .inl (vD0t ft tn a tu)))] ++ [(ar, .inl (T 0, 30, .inl fr))] ++ [(ab, .inl (T 0, 3, .inl fb))]) H := (by unfold vD0t; rw [hf, htn a ha20]; exact hP)
                have hD9 : va_D A ([(aq, .inl (T 0, 12, .inl fq))] ++ [(at9, .inl (T 0, 60, .inl (vD0t ft tn a tu)))] ++ [(ar, .inl (T 0, 30, .inl fr))] ++ [(ab, .inl (T 0, 3, .inl fb))]) := (by unfold vD0t; rw [hf, htn a ha20]; exact hD)
                exact e_rwi hx hb hr hlocks hS (by rw [hf]) hP9 hD9 dL_due_209
              refine b_if_eq (b := vIl tn a tu k) (tgt := 207) hx hb dL_due_197 (by decide) (fun c_18 => ?_) (fun c_19 => ?_)
              · skip
                refine lv_bipush (v := (-103)) hx hb dL_due_207 (by decide) ?_
                exact J_17 _ (by first | rw [if_pos c_18] | rw [if_neg (by rw [c_18]; decide)])
              · skip
                refine lv_iload_n hx hb dL_due_200 rfl (lv_at hl 6 rfl) ?_
                refine k_roS (As := [.int (nI tu)]) (rest := []) (wc := []) (d := 0) (v := nI (uMy tu)) cx (c_L_many l G T A tu (by omega)) (va_cwS 1 hts gL_due_L_many rfl rfl rfl (by decide +kernel) ⟨Nat.le_of_ble_eq_true rfl, Nat.le_of_ble_eq_true rfl⟩) (hP.sub (ws' := []) [] rfl) hK (hE.kept hS.2.1) rfl hl.1 rfl (Nat.le_of_ble_eq_true rfl) dL_due_201 ⟨Nat.le_of_ble_eq_true rfl, Nat.le_of_ble_eq_true rfl⟩ ?_
                refine lv_goto (tgt := 209) hx hb dL_due_204 (by decide) ?_
                exact J_17 _ (by first | rw [if_pos c_19] | rw [if_neg (by rw [c_19]; decide)])
            refine b_if_eq (b := vIl tn a tu k) (tgt := 190) hx hb dL_due_183 (by decide) (fun c_20 => ?_) (fun c_21 => ?_)
            · skip
              refine lv_aload hx hb dL_due_190 (lv_at hl 8 rfl) ?_
              refine lv_iload_n hx hb dL_due_192 rfl (lv_at hl 4 rfl) ?_
              refine n_iald hx hb hK hP 1 0 rfl rfl a (by omega) (by decide) dL_due_193 ?_
              refine n_top (y := nI (tn a)) (htn _ (by omega)) ?_
              exact J_16 _ (by first | rw [if_pos c_20] | rw [if_neg (by rw [c_20]; decide)])
            · skip
              refine lv_iload_n hx hb dL_due_186 rfl (lv_at hl 6 rfl) ?_
              refine lv_goto (tgt := 194) hx hb dL_due_187 (by decide) ?_
              exact J_16 _ (by first | rw [if_pos c_21] | rw [if_neg (by rw [c_21]; decide)])
          · skip
            refine lv_iload hx hb dL_due_147 (lv_at hl 0 rfl) ?_
            refine lv_iload_n hx hb dL_due_149 rfl (lv_at hl 4 rfl) ?_
            have J_22 : ∀ y9 : Int32, y9 = (bI (vIl tn a tu (k + 1))) → W p l e (headSpec wsL_due (rmD 3 0 0)).room s m args below meth c H locs 0 0 Q0 (F0 m 170 ls (.int y9 :: [])) := by
              intro y9 hy9
              subst hy9
              refine lv_istore (lv' := [(9, .int (bI (vIl tn a tu (k + 1)))), (10, .int (nI k)), (8, .int (nI 0)), (0, .int (nI 0)), (1, .int (nI a)), (2, .int (nI ee)), (3, .int (nI tu)), (4, .ref aq), (5, .ref at9), (6, .ref ar), (7, .ref ab)]) hx hb dL_due_170 hl (by decide) rfl (fun ls hl => ?_)
              refine lv_iinc (v := nI (k + 1)) (lv' := [(10, .int (nI (k + 1))), (9, .int (bI (vIl tn a tu (k + 1)))), (8, .int (nI 0)), (0, .int (nI 0)), (1, .int (nI a)), (2, .int (nI ee)), (3, .int (nI tu)), (4, .ref aq), (5, .ref at9), (6, .ref ar), (7, .ref ab)]) hx hb dL_due_172 hl (k := 1) rfl (n_inc k 1 rfl) (by decide) rfl (fun ls hl => ?_)
              refine lv_goto (tgt := 135) hx hb dL_due_175 (by decide) ?_
              exact ih135 (k + 1) (by omega) (by omega) _ _ rfl rfl _ _ hP hD hS _ (lv_sub hl [0, 1, 2, 3, 4, 5, 6, 7, 8, 9, 10] rfl)
            refine n_icmp_eq (a := k) (b := a) (tgt := 165) hx hb (by omega) (by omega) dL_due_150 (by decide) (fun c_23 => ?_) (fun c_24 => ?_)
            · skip
              refine n_iconst hx hb 1 dL_due_165 (by decide) ?_
              refine lv_goto (tgt := 170) hx hb dL_due_166 (by decide) ?_
              exact J_22 _ (by rw [show vIl tn a tu (k + 1) = (vIl tn a tu k && vId tn a tu k) from rfl, ‹vIl tn a tu k = true›, Bool.true_and]; unfold vId; first | exact bt1 (by first | exact Or.inl (by assumption) | exact Or.inr (by rw [c_23]; decide)) | exact bt0 (fun h9 => h9.elim (fun h8 => absurd h8 (by assumption)) (fun h8 => h8 (by assumption))))
            · skip
              have htk := htn9 k (by omega)
              refine lv_aload hx hb dL_due_153 (lv_at hl 8 rfl) ?_
              refine lv_iload hx hb dL_due_155 (lv_at hl 0 rfl) ?_
              refine n_iald hx hb hK hP 1 0 rfl rfl k (by omega) (by decide) dL_due_157 ?_
              refine n_top (y := nI (tn k)) (htn _ (by omega)) ?_
              refine lv_iload_n hx hb dL_due_158 rfl (lv_at hl 6 rfl) ?_
              refine k_roS (As := [.int (nI (tn k)), .int (nI tu)]) (rest := []) (wc := []) (d := 2) (v := bI (uAl (tn k) tu)) cx (c_L_alike l G T A (tn k) tu (by omega) (by omega)) (va_cwS 2 hts gL_due_L_alike rfl rfl rfl (by decide +kernel) ⟨Nat.le_of_ble_eq_true rfl, Nat.le_of_ble_eq_true rfl⟩) (hP.sub (ws' := []) [] rfl) hK (hE.kept hS.2.1) rfl hl.1 rfl (Nat.le_of_ble_eq_true rfl) dL_due_159 ⟨Nat.le_of_ble_eq_true rfl, Nat.le_of_ble_eq_true rfl⟩ ?_
              refine b_if_ne (b := uAl (tn k) tu) (tgt := 169) hx hb dL_due_162 (by decide) (fun c_25 => ?_) (fun c_26 => ?_)
              · skip
                refine n_iconst hx hb 0 dL_due_169 (by decide) ?_
                exact J_22 _ (by rw [show vIl tn a tu (k + 1) = (vIl tn a tu k && vId tn a tu k) from rfl, ‹vIl tn a tu k = true›, Bool.true_and]; unfold vId; first | exact bt1 (by first | exact Or.inl (by assumption) | exact Or.inr (by rw [c_25]; decide)) | exact bt0 (fun h9 => h9.elim (fun h8 => absurd h8 (by assumption)) (fun h8 => h8 (by assumption))))
              · skip
                refine n_iconst hx hb 1 dL_due_165 (by decide) ?_
                refine lv_goto (tgt := 170) hx hb dL_due_166 (by decide) ?_
                exact J_22 _ (by rw [show vIl tn a tu (k + 1) = (vIl tn a tu k && vId tn a tu k) from rfl, ‹vIl tn a tu k = true›, Bool.true_and]; unfold vId; first | exact bt1 (by first | exact Or.inl (by assumption) | exact Or.inr (by rw [c_26]; decide)) | exact bt0 (fun h9 => h9.elim (fun h8 => absurd h8 (by assumption)) (fun h8 => h8 (by assumption))))
    exact L135 (20 + 1) 0 (by omega) (by omega) _ _ rfl rfl _ _ hP hD hS _ (lv_sub hl [0, 1, 2, 3, 4, 5, 6, 7, 8, 9, 10] rfl)
  refine n_icmp_le (a := uMy tu) (b := 1) (tgt := 129) hx hb (by omega) (by decide) dL_due_113 (by decide) (fun c_27 => ?_) (fun c_28 => ?_)
  · skip
    refine n_iconst hx hb 0 dL_due_129 (by decide) ?_
    exact J_5 _ (by unfold vIs; first | exact bt1 (by omega) | exact bt0 (by omega))
  · skip
    refine lv_iload_n hx hb dL_due_116 rfl (lv_at hl 4 rfl) ?_
    refine k_roS (As := [.int (nI tu)]) (rest := []) (wc := []) (d := 0) (v := nI (uMy tu)) cx (c_L_many l G T A tu (by omega)) (va_cwS 1 hts gL_due_L_many rfl rfl rfl (by decide +kernel) ⟨Nat.le_of_ble_eq_true rfl, Nat.le_of_ble_eq_true rfl⟩) (hP.sub (ws' := []) [] rfl) hK (hE.kept hS.2.1) rfl hl.1 rfl (Nat.le_of_ble_eq_true rfl) dL_due_117 ⟨Nat.le_of_ble_eq_true rfl, Nat.le_of_ble_eq_true rfl⟩ ?_
    refine lv_bipush (v := nI 9) hx hb dL_due_120 (by decide) ?_
    refine n_icmp_ge (a := uMy tu) (b := 9) (tgt := 129) hx hb (by omega) (by decide) dL_due_122 (by decide) (fun c_29 => ?_) (fun c_30 => ?_)
    · skip
      refine n_iconst hx hb 0 dL_due_129 (by decide) ?_
      exact J_5 _ (by unfold vIs; first | exact bt1 (by omega) | exact bt0 (by omega))
    · skip
      refine n_iconst hx hb 1 dL_due_125 (by decide) ?_
      refine lv_goto (tgt := 130) hx hb dL_due_126 (by decide) ?_
      exact J_5 _ (by unfold vIs; first | exact bt1 (by omega) | exact bt0 (by omega))
set_option maxHeartbeats 20000000 in
set_option maxRecDepth 100000 in
theorem c_L_due_1 (l : Launch) (G : va_G) (T : Nat → ClassId) (sz : Nat) (aq : Nat) (fq : Nat → Int32) (at9 : Nat) (ft : Nat → Int32) (ar : Nat) (fr : Nat → Int32) (ab : Nat) (fb : Nat → Int32) (tn : Nat → Nat) (a : Nat) (ee : Nat) (tu : Nat) (htn : ∀ i : Nat, i < 20 → ft i = nI (tn i)) (htn9 : ∀ i : Nat, i < 20 → tn i < 167772160) (htu : tu < 167772160) (ha6 : a < 6) (he20 : ee < 20) (hwy : vWy fq fr tn a ee = nI 0) (hz1 : x6 (vBr (vW2 fq a ee) fr fb a ee 1)) (hz2 : x6 (vBr (vW3 fq fr fb a ee) fr fb a ee 2)) : RWi l yL_due wsL_due 3 0 0 G T sz ([(aq, .inl (T 0, 12, .inl fq))] ++ [(at9, .inl (T 0, 60, .inl ft))] ++ [(ar, .inl (T 0, 30, .inl fr))] ++ [(ab, .inl (T 0, 3, .inl fb))]) [.int (nI 1), .int (nI a), .int (nI ee), .int (nI tu), .ref aq, .ref at9, .ref ar, .ref ab] (pBC ((vW5 fq fr fb a ee) 9)) ([(aq, .inl (T 0, 12, .inl (vWq fq fr fb a ee)))] ++ [(at9, .inl (T 0, 60, .inl (vWt fq ft fr fb a ee)))] ++ [(ar, .inl (T 0, 30, .inl (vWr fq fr fb a ee)))] ++ [(ab, .inl (T 0, 3, .inl fb))]) := by
  refine Met.ofW (cc := cL_due) (maxL := 11) (ret := (some .int)) (by decide) rfl ?_
  intro p e s m args below meth c s₁ B hml hv
  obtain ⟨ha, hsz, hP, hK, hD0, hE0⟩ := hv
  have hx := B.exec
  have hb := B.bytes
  have hr := B.returns
  have hlocks := B.notSynchronized
  have hts := atoms_spec (ws := wsL_due) B.pre
  have hown : s.vm.findClass RL = some m.cls := findClass_of_methodNamed B.named
  have cx : CallFix p m c cL_due 11 s args wsL_due RL := ⟨hx, hb, hml, hown, hts⟩
  subst hsz
  have hD := hD0.self (sz := s.heap.size)
  generalize hAe : va_A ([(aq, .inl (T 0, 12, .inl fq))] ++ [(at9, .inl (T 0, 60, .inl ft))] ++ [(ar, .inl (T 0, 30, .inl fr))] ++ [(ab, .inl (T 0, 3, .inl fb))]) s.heap.size = A at hD hE0 ⊢
  have hE : gE A s s.heap := hE0
  have hA : ∀ q : Nat, s.heap.size ≤ q → A q := fun q h => by rw [← hAe]; exact Or.inr h
  have hS : va_S A s.heap s.heap [] := va_S.rf
  refine w_entry ha (Nat.le_of_ble_eq_true rfl) (fun ls hl => ?_)
  refine w_q (fun Q0 hQ => ?_)
  have hl : lv_has ls 11 [(0, .int (nI 1)), (1, .int (nI a)), (2, .int (nI ee)), (3, .int (nI tu)), (4, .ref aq), (5, .ref at9), (6, .ref ar), (7, .ref ab)] := hl
  have hP : va_P G vwCl [(aq, .inl (T 0, 12, .inl fq)), (at9, .inl (T 0, 60, .inl ft)), (ar, .inl (T 0, 30, .inl fr)), (ab, .inl (T 0, 3, .inl fb))] s.heap := hP
  have hD : va_D A [(aq, .inl (T 0, 12, .inl fq)), (at9, .inl (T 0, 60, .inl ft)), (ar, .inl (T 0, 30, .inl fr)), (ab, .inl (T 0, 3, .inl fb))] := hD
  skip
  refine w_h (fun H locs hHe hLe => ?_)
  have hP : va_P G vwCl [(aq, .inl (T 0, 12, .inl fq)), (at9, .inl (T 0, 60, .inl ft)), (ar, .inl (T 0, 30, .inl fr)), (ab, .inl (T 0, 3, .inl fb))] H := by rw [hHe]; exact hP
  have hS : va_S A s.heap H locs := by rw [hHe, hLe]; exact hS
  refine lv_iload_n hx hb dL_due_0 rfl (lv_at hl 0 rfl) ?_
  refine n_iconst hx hb 2 dL_due_1 (by decide) ?_
  refine n_icmp_ne (a := 1) (b := 2) (tgt := 14) hx hb (by decide) (by decide) dL_due_2 (by decide) (fun c_1 => ?_) (fun h9 => absurd h9 (by decide))
  refine lv_iload_n hx hb dL_due_14 rfl (lv_at hl 0 rfl) ?_
  refine n_iconst hx hb 3 dL_due_15 (by decide) ?_
  refine n_icmp_ne (a := 1) (b := 3) (tgt := 26) hx hb (by decide) (by decide) dL_due_16 (by decide) (fun c_2 => ?_) (fun h9 => absurd h9 (by decide))
  refine lv_iload_n hx hb dL_due_26 rfl (lv_at hl 0 rfl) ?_
  refine lv_bipush (v := nI 7) hx hb dL_due_27 (by decide) ?_
  refine n_icmp_ne (a := 1) (b := 7) (tgt := 41) hx hb (by decide) (by decide) dL_due_29 (by decide) (fun c_3 => ?_) (fun h9 => absurd h9 (by decide))
  refine lv_iload_n hx hb dL_due_41 rfl (lv_at hl 0 rfl) ?_
  refine lv_bipush (v := nI 8) hx hb dL_due_42 (by decide) ?_
  refine n_icmp_ne (a := 1) (b := 8) (tgt := 57) hx hb (by decide) (by decide) dL_due_44 (by decide) (fun c_4 => ?_) (fun h9 => absurd h9 (by decide))
  refine n_iconst hx hb 0 dL_due_57 (by decide) ?_
  refine lv_istore (lv' := [(8, .int (nI 0)), (0, .int (nI 1)), (1, .int (nI a)), (2, .int (nI ee)), (3, .int (nI tu)), (4, .ref aq), (5, .ref at9), (6, .ref ar), (7, .ref ab)]) hx hb dL_due_58 hl (by decide) rfl (fun ls hl => ?_)
  refine lv_iload_n hx hb dL_due_60 rfl (lv_at hl 1 rfl) ?_
  refine n_tab (a := 1) (off := 149) (tgt := 210) hx hb (by decide) dL_due_61 (by decide) (by decide) rfl (by decide) ?_
  refine lv_iload_n hx hb dL_due_210 rfl (lv_at hl 2 rfl) ?_
  refine lv_iload_n hx hb dL_due_211 rfl (lv_at hl 3 rfl) ?_
  refine lv_aload hx hb dL_due_212 (lv_at hl 5 rfl) ?_
  refine lv_aload hx hb dL_due_214 (lv_at hl 6 rfl) ?_
  refine lv_aload hx hb dL_due_216 (lv_at hl 7 rfl) ?_
  refine lv_aload hx hb dL_due_218 (lv_at hl 8 rfl) ?_
  refine k_rwS (As := [.int (nI a), .int (nI ee), .ref aq, .ref at9, .ref ar, .ref ab]) (rest := []) (wc := [(aq, .inl (T 0, 12, .inl fq))] ++ [(at9, .inl (T 0, 60, .inl ft))] ++ [(ar, .inl (T 0, 30, .inl fr))] ++ [(ab, .inl (T 0, 3, .inl fb))]) (wr := []) (w1 := [(aq, .inl (T 0, 12, .inl (vWq fq fr fb a ee)))] ++ [(at9, .inl (T 0, 60, .inl (vWt fq ft fr fb a ee)))] ++ [(ar, .inl (T 0, 30, .inl (vWr fq fr fb a ee)))] ++ [(ab, .inl (T 0, 3, .inl fb))]) (d := 2) (mc := 0) (ms := 0) (v := pBC ((vW5 fq fr fb a ee) 9)) (isC := [0, 1, 2, 3]) (isR := []) cx (c_L_whistles l G T H.size aq fq at9 ft ar fr ab fb tn a ee (by first | assumption | rfl | omega) (by omega) (by omega) (by omega) hwy hz1 hz2) (va_cwS 6 hts gL_due_L_whistles rfl rfl rfl (by decide +kernel) ⟨Nat.le_of_ble_eq_true rfl, Nat.le_of_ble_eq_true rfl⟩) ⟨hP, hD, hS, hA, hE, hK, rfl, rfl, rfl, rfl, by decide⟩ rfl hl.1 rfl (Nat.le_of_ble_eq_true rfl) dL_due_220 ⟨Nat.le_of_ble_eq_true rfl, Nat.le_of_ble_eq_true rfl⟩ (fun H locs hP hD hS hz => ?_)
  have hP : va_P G vwCl [(aq, .inl (T 0, 12, .inl (vWq fq fr fb a ee))), (at9, .inl (T 0, 60, .inl (vWt fq ft fr fb a ee))), (ar, .inl (T 0, 30, .inl (vWr fq fr fb a ee))), (ab, .inl (T 0, 3, .inl fb))] H := kN.sub (is := [0, 1, 2, 3]) hP rfl
  have hD : va_D A [(aq, .inl (T 0, 12, .inl (vWq fq fr fb a ee))), (at9, .inl (T 0, 60, .inl (vWt fq ft fr fb a ee))), (ar, .inl (T 0, 30, .inl (vWr fq fr fb a ee))), (ab, .inl (T 0, 3, .inl fb))] := hD.sub [0, 1, 2, 3] rfl rfl
  subst hQ
  have hP9 : va_P G vwCl ([(aq, .inl (T 0, 12, .inl (vWq fq fr fb a ee)))] ++ [(at9, .inl (T 0, 60, .inl (vWt fq ft fr fb a ee)))] ++ [(ar, .inl (T 0, 30, .inl (vWr fq fr fb a ee)))] ++ [(ab, .inl (T 0, 3, .inl fb))]) H := hP
  have hD9 : va_D A ([(aq, .inl (T 0, 12, .inl (vWq fq fr fb a ee)))] ++ [(at9, .inl (T 0, 60, .inl (vWt fq ft fr fb a ee)))] ++ [(ar, .inl (T 0, 30, .inl (vWr fq fr fb a ee)))] ++ [(ab, .inl (T 0, 3, .inl fb))]) := hD
  exact e_rwi hx hb hr hlocks hS rfl hP9 hD9 dL_due_223
set_option maxHeartbeats 4000000 in
set_option maxRecDepth 100000 in
theorem c_L_due_1_no (l : Launch) (G : va_G) (T : Nat → ClassId) (sz : Nat) (aq : Nat) (fq : Nat → Int32) (at9 : Nat) (ft : Nat → Int32) (ar : Nat) (fr : Nat → Int32) (ab : Nat) (fb : Nat → Int32) (tn : Nat → Nat) (a : Nat) (ee : Nat) (tu : Nat) (htn : ∀ i : Nat, i < 20 → ft i = nI (tn i)) (htn9 : ∀ i : Nat, i < 20 → tn i < 167772160) (htu : tu < 167772160) (ha6 : a < 6) (he20 : ee < 20) (hwn : ¬ vWy fq fr tn a ee = nI 0) : RWi l yL_due wsL_due 3 0 0 G T sz ([(aq, .inl (T 0, 12, .inl fq))] ++ [(at9, .inl (T 0, 60, .inl ft))] ++ [(ar, .inl (T 0, 30, .inl fr))] ++ [(ab, .inl (T 0, 3, .inl fb))]) [.int (nI 1), .int (nI a), .int (nI ee), .int (nI tu), .ref aq, .ref at9, .ref ar, .ref ab] (-103) ([(aq, .inl (T 0, 12, .inl fq))] ++ [(at9, .inl (T 0, 60, .inl ft))] ++ [(ar, .inl (T 0, 30, .inl fr))] ++ [(ab, .inl (T 0, 3, .inl fb))]) := by
  refine Met.ofW (cc := cL_due) (maxL := 11) (ret := (some .int)) (by decide) rfl ?_
  intro p e s m args below meth c s₁ B hml hv
  obtain ⟨ha, hsz, hP, hK, hD0, hE0⟩ := hv
  have hx := B.exec
  have hb := B.bytes
  have hr := B.returns
  have hlocks := B.notSynchronized
  have hts := atoms_spec (ws := wsL_due) B.pre
  have hown : s.vm.findClass RL = some m.cls := findClass_of_methodNamed B.named
  have cx : CallFix p m c cL_due 11 s args wsL_due RL := ⟨hx, hb, hml, hown, hts⟩
  subst hsz
  have hD := hD0.self (sz := s.heap.size)
  generalize hAe : va_A ([(aq, .inl (T 0, 12, .inl fq))] ++ [(at9, .inl (T 0, 60, .inl ft))] ++ [(ar, .inl (T 0, 30, .inl fr))] ++ [(ab, .inl (T 0, 3, .inl fb))]) s.heap.size = A at hD hE0 ⊢
  have hE : gE A s s.heap := hE0
  have hA : ∀ q : Nat, s.heap.size ≤ q → A q := fun q h => by rw [← hAe]; exact Or.inr h
  have hS : va_S A s.heap s.heap [] := va_S.rf
  refine w_entry ha (Nat.le_of_ble_eq_true rfl) (fun ls hl => ?_)
  refine w_q (fun Q0 hQ => ?_)
  have hl : lv_has ls 11 [(0, .int (nI 1)), (1, .int (nI a)), (2, .int (nI ee)), (3, .int (nI tu)), (4, .ref aq), (5, .ref at9), (6, .ref ar), (7, .ref ab)] := hl
  have hP : va_P G vwCl [(aq, .inl (T 0, 12, .inl fq)), (at9, .inl (T 0, 60, .inl ft)), (ar, .inl (T 0, 30, .inl fr)), (ab, .inl (T 0, 3, .inl fb))] s.heap := hP
  have hD : va_D A [(aq, .inl (T 0, 12, .inl fq)), (at9, .inl (T 0, 60, .inl ft)), (ar, .inl (T 0, 30, .inl fr)), (ab, .inl (T 0, 3, .inl fb))] := hD
  skip
  refine w_h (fun H locs hHe hLe => ?_)
  have hP : va_P G vwCl [(aq, .inl (T 0, 12, .inl fq)), (at9, .inl (T 0, 60, .inl ft)), (ar, .inl (T 0, 30, .inl fr)), (ab, .inl (T 0, 3, .inl fb))] H := by rw [hHe]; exact hP
  have hS : va_S A s.heap H locs := by rw [hHe, hLe]; exact hS
  refine lv_iload_n hx hb dL_due_0 rfl (lv_at hl 0 rfl) ?_
  refine n_iconst hx hb 2 dL_due_1 (by decide) ?_
  refine n_icmp_ne (a := 1) (b := 2) (tgt := 14) hx hb (by decide) (by decide) dL_due_2 (by decide) (fun c_1 => ?_) (fun h9 => absurd h9 (by decide))
  refine lv_iload_n hx hb dL_due_14 rfl (lv_at hl 0 rfl) ?_
  refine n_iconst hx hb 3 dL_due_15 (by decide) ?_
  refine n_icmp_ne (a := 1) (b := 3) (tgt := 26) hx hb (by decide) (by decide) dL_due_16 (by decide) (fun c_2 => ?_) (fun h9 => absurd h9 (by decide))
  refine lv_iload_n hx hb dL_due_26 rfl (lv_at hl 0 rfl) ?_
  refine lv_bipush (v := nI 7) hx hb dL_due_27 (by decide) ?_
  refine n_icmp_ne (a := 1) (b := 7) (tgt := 41) hx hb (by decide) (by decide) dL_due_29 (by decide) (fun c_3 => ?_) (fun h9 => absurd h9 (by decide))
  refine lv_iload_n hx hb dL_due_41 rfl (lv_at hl 0 rfl) ?_
  refine lv_bipush (v := nI 8) hx hb dL_due_42 (by decide) ?_
  refine n_icmp_ne (a := 1) (b := 8) (tgt := 57) hx hb (by decide) (by decide) dL_due_44 (by decide) (fun c_4 => ?_) (fun h9 => absurd h9 (by decide))
  refine n_iconst hx hb 0 dL_due_57 (by decide) ?_
  refine lv_istore (lv' := [(8, .int (nI 0)), (0, .int (nI 1)), (1, .int (nI a)), (2, .int (nI ee)), (3, .int (nI tu)), (4, .ref aq), (5, .ref at9), (6, .ref ar), (7, .ref ab)]) hx hb dL_due_58 hl (by decide) rfl (fun ls hl => ?_)
  refine lv_iload_n hx hb dL_due_60 rfl (lv_at hl 1 rfl) ?_
  refine n_tab (a := 1) (off := 149) (tgt := 210) hx hb (by decide) dL_due_61 (by decide) (by decide) rfl (by decide) ?_
  refine lv_iload_n hx hb dL_due_210 rfl (lv_at hl 2 rfl) ?_
  refine lv_iload_n hx hb dL_due_211 rfl (lv_at hl 3 rfl) ?_
  refine lv_aload hx hb dL_due_212 (lv_at hl 5 rfl) ?_
  refine lv_aload hx hb dL_due_214 (lv_at hl 6 rfl) ?_
  refine lv_aload hx hb dL_due_216 (lv_at hl 7 rfl) ?_
  refine lv_aload hx hb dL_due_218 (lv_at hl 8 rfl) ?_
  refine k_rwS (As := [.int (nI a), .int (nI ee), .ref aq, .ref at9, .ref ar, .ref ab]) (rest := []) (wc := [(aq, .inl (T 0, 12, .inl fq))] ++ [(at9, .inl (T 0, 60, .inl ft))] ++ [(ar, .inl (T 0, 30, .inl fr))] ++ [(ab, .inl (T 0, 3, .inl fb))]) (wr := []) (w1 := [(aq, .inl (T 0, 12, .inl fq))] ++ [(at9, .inl (T 0, 60, .inl ft))] ++ [(ar, .inl (T 0, 30, .inl fr))] ++ [(ab, .inl (T 0, 3, .inl fb))]) (d := 2) (mc := 0) (ms := 0) (v := (-103)) (isC := [0, 1, 2, 3]) (isR := []) cx (c_L_whistles_no l G T H.size aq fq at9 ft ar fr ab fb tn a ee (by first | assumption | rfl | omega) (by omega) (by omega) (by omega) hwn) (va_cwS 6 hts gL_due_L_whistles rfl rfl rfl (by decide +kernel) ⟨Nat.le_of_ble_eq_true rfl, Nat.le_of_ble_eq_true rfl⟩) ⟨hP, hD, hS, hA, hE, hK, rfl, rfl, rfl, rfl, by decide⟩ rfl hl.1 rfl (Nat.le_of_ble_eq_true rfl) dL_due_220 ⟨Nat.le_of_ble_eq_true rfl, Nat.le_of_ble_eq_true rfl⟩ (fun H locs hP hD hS hz => ?_)
  have hP : va_P G vwCl [(aq, .inl (T 0, 12, .inl fq)), (at9, .inl (T 0, 60, .inl ft)), (ar, .inl (T 0, 30, .inl fr)), (ab, .inl (T 0, 3, .inl fb))] H := kN.sub (is := [0, 1, 2, 3]) hP rfl
  have hD : va_D A [(aq, .inl (T 0, 12, .inl fq)), (at9, .inl (T 0, 60, .inl ft)), (ar, .inl (T 0, 30, .inl fr)), (ab, .inl (T 0, 3, .inl fb))] := hD.sub [0, 1, 2, 3] rfl rfl
  subst hQ
  have hP9 : va_P G vwCl ([(aq, .inl (T 0, 12, .inl fq))] ++ [(at9, .inl (T 0, 60, .inl ft))] ++ [(ar, .inl (T 0, 30, .inl fr))] ++ [(ab, .inl (T 0, 3, .inl fb))]) H := hP
  have hD9 : va_D A ([(aq, .inl (T 0, 12, .inl fq))] ++ [(at9, .inl (T 0, 60, .inl ft))] ++ [(ar, .inl (T 0, 30, .inl fr))] ++ [(ab, .inl (T 0, 3, .inl fb))]) := hD
  exact e_rwi hx hb hr hlocks hS rfl hP9 hD9 dL_due_223
set_option maxHeartbeats 4000000 in
set_option maxRecDepth 100000 in
theorem c_L_due_2 (l : Launch) (G : va_G) (T : Nat → ClassId) (sz : Nat) (aq : Nat) (fq : Nat → Int32) (at9 : Nat) (ft : Nat → Int32) (ar : Nat) (fr : Nat → Int32) (ab : Nat) (fb : Nat → Int32) (tn : Nat → Nat) (a : Nat) (ee : Nat) (tu : Nat) (htn : ∀ i : Nat, i < 20 → ft i = nI (tn i)) (htn9 : ∀ i : Nat, i < 20 → tn i < 167772160) (htu : tu < 167772160) (ha6 : a < 6) : RWi l yL_due wsL_due 3 0 0 G T sz ([(aq, .inl (T 0, 12, .inl fq))] ++ [(at9, .inl (T 0, 60, .inl ft))] ++ [(ar, .inl (T 0, 30, .inl fr))] ++ [(ab, .inl (T 0, 3, .inl fb))]) [.int (nI 2), .int (nI a), .int (nI ee), .int (nI tu), .ref aq, .ref at9, .ref ar, .ref ab] (fr (5 * a)) ([(aq, .inl (T 0, 12, .inl fq))] ++ [(at9, .inl (T 0, 60, .inl ft))] ++ [(ar, .inl (T 0, 30, .inl (vD2r fq fr a)))] ++ [(ab, .inl (T 0, 3, .inl fb))]) := by
  refine Met.ofW (cc := cL_due) (maxL := 11) (ret := (some .int)) (by decide) rfl ?_
  intro p e s m args below meth c s₁ B hml hv
  obtain ⟨ha, hsz, hP, hK, hD0, hE0⟩ := hv
  have hx := B.exec
  have hb := B.bytes
  have hr := B.returns
  have hlocks := B.notSynchronized
  have hts := atoms_spec (ws := wsL_due) B.pre
  have hown : s.vm.findClass RL = some m.cls := findClass_of_methodNamed B.named
  have cx : CallFix p m c cL_due 11 s args wsL_due RL := ⟨hx, hb, hml, hown, hts⟩
  subst hsz
  have hD := hD0.self (sz := s.heap.size)
  generalize hAe : va_A ([(aq, .inl (T 0, 12, .inl fq))] ++ [(at9, .inl (T 0, 60, .inl ft))] ++ [(ar, .inl (T 0, 30, .inl fr))] ++ [(ab, .inl (T 0, 3, .inl fb))]) s.heap.size = A at hD hE0 ⊢
  have hE : gE A s s.heap := hE0
  have hA : ∀ q : Nat, s.heap.size ≤ q → A q := fun q h => by rw [← hAe]; exact Or.inr h
  have hS : va_S A s.heap s.heap [] := va_S.rf
  refine w_entry ha (Nat.le_of_ble_eq_true rfl) (fun ls hl => ?_)
  refine w_q (fun Q0 hQ => ?_)
  have hl : lv_has ls 11 [(0, .int (nI 2)), (1, .int (nI a)), (2, .int (nI ee)), (3, .int (nI tu)), (4, .ref aq), (5, .ref at9), (6, .ref ar), (7, .ref ab)] := hl
  have hP : va_P G vwCl [(aq, .inl (T 0, 12, .inl fq)), (at9, .inl (T 0, 60, .inl ft)), (ar, .inl (T 0, 30, .inl fr)), (ab, .inl (T 0, 3, .inl fb))] s.heap := hP
  have hD : va_D A [(aq, .inl (T 0, 12, .inl fq)), (at9, .inl (T 0, 60, .inl ft)), (ar, .inl (T 0, 30, .inl fr)), (ab, .inl (T 0, 3, .inl fb))] := hD
  skip
  refine w_h (fun H locs hHe hLe => ?_)
  have hP : va_P G vwCl [(aq, .inl (T 0, 12, .inl fq)), (at9, .inl (T 0, 60, .inl ft)), (ar, .inl (T 0, 30, .inl fr)), (ab, .inl (T 0, 3, .inl fb))] H := by rw [hHe]; exact hP
  have hS : va_S A s.heap H locs := by rw [hHe, hLe]; exact hS
  refine lv_iload_n hx hb dL_due_0 rfl (lv_at hl 0 rfl) ?_
  refine n_iconst hx hb 2 dL_due_1 (by decide) ?_
  refine n_icmp_ne (a := 2) (b := 2) (tgt := 14) hx hb (by decide) (by decide) dL_due_2 (by decide) (fun h9 => absurd h9 (by decide)) (fun c_1 => ?_)
  refine lv_aload hx hb dL_due_5 (lv_at hl 6 rfl) ?_
  refine n_iconst hx hb 5 dL_due_7 (by decide) ?_
  refine lv_iload_n hx hb dL_due_8 rfl (lv_at hl 1 rfl) ?_
  refine n_imul (a := 5) (b := a) hx hb dL_due_9 ?_
  refine n_iald hx hb hK hP 2 0 rfl rfl (5 * a) (by omega) (by decide) dL_due_10 ?_
  refine lv_goto (tgt := 58) hx hb dL_due_11 (by decide) ?_
  refine lv_istore (lv' := [(8, .int (fr (5 * a))), (0, .int (nI 2)), (1, .int (nI a)), (2, .int (nI ee)), (3, .int (nI tu)), (4, .ref aq), (5, .ref at9), (6, .ref ar), (7, .ref ab)]) hx hb dL_due_58 hl (by decide) rfl (fun ls hl => ?_)
  refine lv_iload_n hx hb dL_due_60 rfl (lv_at hl 1 rfl) ?_
  refine n_tab (a := 2) (off := 163) (tgt := 224) hx hb (by decide) dL_due_61 (by decide) (by decide) rfl (by decide) ?_
  refine lv_aload hx hb dL_due_224 (lv_at hl 7 rfl) ?_
  refine n_iconst hx hb 5 dL_due_226 (by decide) ?_
  refine lv_iload_n hx hb dL_due_227 rfl (lv_at hl 2 rfl) ?_
  refine n_imul (a := 5) (b := a) hx hb dL_due_228 ?_
  refine lv_aload hx hb dL_due_229 (lv_at hl 5 rfl) ?_
  refine n_iconst hx hb 1 dL_due_231 (by decide) ?_
  refine n_iald hx hb hK hP 0 0 rfl rfl 1 (by decide) (by decide) dL_due_232 ?_
  refine n_iast hx hb hK hP hD hS 2 0 rfl rfl (5 * a) (by omega) (by decide) dL_due_233 (fun H locs hP hD hS => ?_)
  have hP : va_P G vwCl [(aq, .inl (T 0, 12, .inl fq)), (at9, .inl (T 0, 60, .inl ft)), (ar, .inl (T 0, 30, .inl (upd fr (5 * a) (fq 1)))), (ab, .inl (T 0, 3, .inl fb))] H := hP
  have hD : va_D A [(aq, .inl (T 0, 12, .inl fq)), (at9, .inl (T 0, 60, .inl ft)), (ar, .inl (T 0, 30, .inl (upd fr (5 * a) (fq 1)))), (ab, .inl (T 0, 3, .inl fb))] := hD
  refine lv_iload hx hb dL_due_234 (lv_at hl 0 rfl) ?_
  subst hQ
  have hP9 : va_P G vwCl ([(aq, .inl (T 0, 12, .inl fq))] ++ [(at9, .inl (T 0, 60, .inl ft))] ++ [(ar, .inl (T 0, 30, .inl (vD2r fq fr a)))] ++ [(ab, .inl (T 0, 3, .inl fb))]) H := hP
  have hD9 : va_D A ([(aq, .inl (T 0, 12, .inl fq))] ++ [(at9, .inl (T 0, 60, .inl ft))] ++ [(ar, .inl (T 0, 30, .inl (vD2r fq fr a)))] ++ [(ab, .inl (T 0, 3, .inl fb))]) := hD
  exact e_rwi hx hb hr hlocks hS rfl hP9 hD9 dL_due_236
set_option maxHeartbeats 4000000 in
set_option maxRecDepth 100000 in
theorem c_L_due_3 (l : Launch) (G : va_G) (T : Nat → ClassId) (sz : Nat) (aq : Nat) (fq : Nat → Int32) (at9 : Nat) (ft : Nat → Int32) (ar : Nat) (fr : Nat → Int32) (ab : Nat) (fb : Nat → Int32) (tn : Nat → Nat) (a : Nat) (ee : Nat) (tu : Nat) (htn : ∀ i : Nat, i < 20 → ft i = nI (tn i)) (htn9 : ∀ i : Nat, i < 20 → tn i < 167772160) (htu : tu < 167772160) : RWi l yL_due wsL_due 3 0 0 G T sz ([(aq, .inl (T 0, 12, .inl fq))] ++ [(at9, .inl (T 0, 60, .inl ft))] ++ [(ar, .inl (T 0, 30, .inl fr))] ++ [(ab, .inl (T 0, 3, .inl fb))]) [.int (nI 3), .int (nI a), .int (nI ee), .int (nI tu), .ref aq, .ref at9, .ref ar, .ref ab] (fq 1) ([(aq, .inl (T 0, 12, .inl (vD3q fq a)))] ++ [(at9, .inl (T 0, 60, .inl ft))] ++ [(ar, .inl (T 0, 30, .inl fr))] ++ [(ab, .inl (T 0, 3, .inl fb))]) := by
  refine Met.ofW (cc := cL_due) (maxL := 11) (ret := (some .int)) (by decide) rfl ?_
  intro p e s m args below meth c s₁ B hml hv
  obtain ⟨ha, hsz, hP, hK, hD0, hE0⟩ := hv
  have hx := B.exec
  have hb := B.bytes
  have hr := B.returns
  have hlocks := B.notSynchronized
  have hts := atoms_spec (ws := wsL_due) B.pre
  have hown : s.vm.findClass RL = some m.cls := findClass_of_methodNamed B.named
  have cx : CallFix p m c cL_due 11 s args wsL_due RL := ⟨hx, hb, hml, hown, hts⟩
  subst hsz
  have hD := hD0.self (sz := s.heap.size)
  generalize hAe : va_A ([(aq, .inl (T 0, 12, .inl fq))] ++ [(at9, .inl (T 0, 60, .inl ft))] ++ [(ar, .inl (T 0, 30, .inl fr))] ++ [(ab, .inl (T 0, 3, .inl fb))]) s.heap.size = A at hD hE0 ⊢
  have hE : gE A s s.heap := hE0
  have hA : ∀ q : Nat, s.heap.size ≤ q → A q := fun q h => by rw [← hAe]; exact Or.inr h
  have hS : va_S A s.heap s.heap [] := va_S.rf
  refine w_entry ha (Nat.le_of_ble_eq_true rfl) (fun ls hl => ?_)
  refine w_q (fun Q0 hQ => ?_)
  have hl : lv_has ls 11 [(0, .int (nI 3)), (1, .int (nI a)), (2, .int (nI ee)), (3, .int (nI tu)), (4, .ref aq), (5, .ref at9), (6, .ref ar), (7, .ref ab)] := hl
  have hP : va_P G vwCl [(aq, .inl (T 0, 12, .inl fq)), (at9, .inl (T 0, 60, .inl ft)), (ar, .inl (T 0, 30, .inl fr)), (ab, .inl (T 0, 3, .inl fb))] s.heap := hP
  have hD : va_D A [(aq, .inl (T 0, 12, .inl fq)), (at9, .inl (T 0, 60, .inl ft)), (ar, .inl (T 0, 30, .inl fr)), (ab, .inl (T 0, 3, .inl fb))] := hD
  skip
  refine w_h (fun H locs hHe hLe => ?_)
  have hP : va_P G vwCl [(aq, .inl (T 0, 12, .inl fq)), (at9, .inl (T 0, 60, .inl ft)), (ar, .inl (T 0, 30, .inl fr)), (ab, .inl (T 0, 3, .inl fb))] H := by rw [hHe]; exact hP
  have hS : va_S A s.heap H locs := by rw [hHe, hLe]; exact hS
  refine lv_iload_n hx hb dL_due_0 rfl (lv_at hl 0 rfl) ?_
  refine n_iconst hx hb 2 dL_due_1 (by decide) ?_
  refine n_icmp_ne (a := 3) (b := 2) (tgt := 14) hx hb (by decide) (by decide) dL_due_2 (by decide) (fun c_1 => ?_) (fun h9 => absurd h9 (by decide))
  refine lv_iload_n hx hb dL_due_14 rfl (lv_at hl 0 rfl) ?_
  refine n_iconst hx hb 3 dL_due_15 (by decide) ?_
  refine n_icmp_ne (a := 3) (b := 3) (tgt := 26) hx hb (by decide) (by decide) dL_due_16 (by decide) (fun h9 => absurd h9 (by decide)) (fun c_2 => ?_)
  refine lv_aload hx hb dL_due_19 (lv_at hl 4 rfl) ?_
  refine n_iconst hx hb 1 dL_due_21 (by decide) ?_
  refine n_iald hx hb hK hP 0 0 rfl rfl 1 (by decide) (by decide) dL_due_22 ?_
  refine lv_goto (tgt := 58) hx hb dL_due_23 (by decide) ?_
  refine lv_istore (lv' := [(8, .int (fq 1)), (0, .int (nI 3)), (1, .int (nI a)), (2, .int (nI ee)), (3, .int (nI tu)), (4, .ref aq), (5, .ref at9), (6, .ref ar), (7, .ref ab)]) hx hb dL_due_58 hl (by decide) rfl (fun ls hl => ?_)
  refine lv_iload_n hx hb dL_due_60 rfl (lv_at hl 1 rfl) ?_
  refine n_tab (a := 3) (off := 176) (tgt := 237) hx hb (by decide) dL_due_61 (by decide) (by decide) rfl (by decide) ?_
  refine lv_aload hx hb dL_due_237 (lv_at hl 5 rfl) ?_
  refine n_iconst hx hb 1 dL_due_239 (by decide) ?_
  refine lv_iload_n hx hb dL_due_240 rfl (lv_at hl 2 rfl) ?_
  refine n_iast hx hb hK hP hD hS 0 0 rfl rfl 1 (by decide) (by decide) dL_due_241 (fun H locs hP hD hS => ?_)
  have hP : va_P G vwCl [(aq, .inl (T 0, 12, .inl (upd fq 1 (nI a)))), (at9, .inl (T 0, 60, .inl ft)), (ar, .inl (T 0, 30, .inl fr)), (ab, .inl (T 0, 3, .inl fb))] H := hP
  have hD : va_D A [(aq, .inl (T 0, 12, .inl (upd fq 1 (nI a)))), (at9, .inl (T 0, 60, .inl ft)), (ar, .inl (T 0, 30, .inl fr)), (ab, .inl (T 0, 3, .inl fb))] := hD
  refine lv_iload hx hb dL_due_242 (lv_at hl 0 rfl) ?_
  subst hQ
  have hP9 : va_P G vwCl ([(aq, .inl (T 0, 12, .inl (vD3q fq a)))] ++ [(at9, .inl (T 0, 60, .inl ft))] ++ [(ar, .inl (T 0, 30, .inl fr))] ++ [(ab, .inl (T 0, 3, .inl fb))]) H := hP
  have hD9 : va_D A ([(aq, .inl (T 0, 12, .inl (vD3q fq a)))] ++ [(at9, .inl (T 0, 60, .inl ft))] ++ [(ar, .inl (T 0, 30, .inl fr))] ++ [(ab, .inl (T 0, 3, .inl fb))]) := hD
  exact e_rwi hx hb hr hlocks hS rfl hP9 hD9 dL_due_244
set_option maxHeartbeats 4000000 in
set_option maxRecDepth 100000 in
theorem c_L_due_4 (l : Launch) (G : va_G) (T : Nat → ClassId) (sz : Nat) (aq : Nat) (fq : Nat → Int32) (at9 : Nat) (ft : Nat → Int32) (ar : Nat) (fr : Nat → Int32) (ab : Nat) (fb : Nat → Int32) (tn : Nat → Nat) (a : Nat) (ee : Nat) (tu : Nat) (htn : ∀ i : Nat, i < 20 → ft i = nI (tn i)) (htn9 : ∀ i : Nat, i < 20 → tn i < 167772160) (htu : tu < 167772160) : RWi l yL_due wsL_due 3 0 0 G T sz ([(aq, .inl (T 0, 12, .inl fq))] ++ [(at9, .inl (T 0, 60, .inl ft))] ++ [(ar, .inl (T 0, 30, .inl fr))] ++ [(ab, .inl (T 0, 3, .inl fb))]) [.int (nI 4), .int (nI a), .int (nI ee), .int (nI tu), .ref aq, .ref at9, .ref ar, .ref ab] ((vD4q fq) 0) ([(aq, .inl (T 0, 12, .inl (vD4q fq)))] ++ [(at9, .inl (T 0, 60, .inl ft))] ++ [(ar, .inl (T 0, 30, .inl (vD4r (vD4q fq) fr 6)))] ++ [(ab, .inl (T 0, 3, .inl fb))]) := by
  refine Met.ofW (cc := cL_due) (maxL := 11) (ret := (some .int)) (by decide) rfl ?_
  intro p e s m args below meth c s₁ B hml hv
  obtain ⟨ha, hsz, hP, hK, hD0, hE0⟩ := hv
  have hx := B.exec
  have hb := B.bytes
  have hr := B.returns
  have hlocks := B.notSynchronized
  have hts := atoms_spec (ws := wsL_due) B.pre
  have hown : s.vm.findClass RL = some m.cls := findClass_of_methodNamed B.named
  have cx : CallFix p m c cL_due 11 s args wsL_due RL := ⟨hx, hb, hml, hown, hts⟩
  subst hsz
  have hD := hD0.self (sz := s.heap.size)
  generalize hAe : va_A ([(aq, .inl (T 0, 12, .inl fq))] ++ [(at9, .inl (T 0, 60, .inl ft))] ++ [(ar, .inl (T 0, 30, .inl fr))] ++ [(ab, .inl (T 0, 3, .inl fb))]) s.heap.size = A at hD hE0 ⊢
  have hE : gE A s s.heap := hE0
  have hA : ∀ q : Nat, s.heap.size ≤ q → A q := fun q h => by rw [← hAe]; exact Or.inr h
  have hS : va_S A s.heap s.heap [] := va_S.rf
  refine w_entry ha (Nat.le_of_ble_eq_true rfl) (fun ls hl => ?_)
  refine w_q (fun Q0 hQ => ?_)
  have hl : lv_has ls 11 [(0, .int (nI 4)), (1, .int (nI a)), (2, .int (nI ee)), (3, .int (nI tu)), (4, .ref aq), (5, .ref at9), (6, .ref ar), (7, .ref ab)] := hl
  have hP : va_P G vwCl [(aq, .inl (T 0, 12, .inl fq)), (at9, .inl (T 0, 60, .inl ft)), (ar, .inl (T 0, 30, .inl fr)), (ab, .inl (T 0, 3, .inl fb))] s.heap := hP
  have hD : va_D A [(aq, .inl (T 0, 12, .inl fq)), (at9, .inl (T 0, 60, .inl ft)), (ar, .inl (T 0, 30, .inl fr)), (ab, .inl (T 0, 3, .inl fb))] := hD
  skip
  refine w_h (fun H locs hHe hLe => ?_)
  have hP : va_P G vwCl [(aq, .inl (T 0, 12, .inl fq)), (at9, .inl (T 0, 60, .inl ft)), (ar, .inl (T 0, 30, .inl fr)), (ab, .inl (T 0, 3, .inl fb))] H := by rw [hHe]; exact hP
  have hS : va_S A s.heap H locs := by rw [hHe, hLe]; exact hS
  refine lv_iload_n hx hb dL_due_0 rfl (lv_at hl 0 rfl) ?_
  refine n_iconst hx hb 2 dL_due_1 (by decide) ?_
  refine n_icmp_ne (a := 4) (b := 2) (tgt := 14) hx hb (by decide) (by decide) dL_due_2 (by decide) (fun c_1 => ?_) (fun h9 => absurd h9 (by decide))
  refine lv_iload_n hx hb dL_due_14 rfl (lv_at hl 0 rfl) ?_
  refine n_iconst hx hb 3 dL_due_15 (by decide) ?_
  refine n_icmp_ne (a := 4) (b := 3) (tgt := 26) hx hb (by decide) (by decide) dL_due_16 (by decide) (fun c_2 => ?_) (fun h9 => absurd h9 (by decide))
  refine lv_iload_n hx hb dL_due_26 rfl (lv_at hl 0 rfl) ?_
  refine lv_bipush (v := nI 7) hx hb dL_due_27 (by decide) ?_
  refine n_icmp_ne (a := 4) (b := 7) (tgt := 41) hx hb (by decide) (by decide) dL_due_29 (by decide) (fun c_3 => ?_) (fun h9 => absurd h9 (by decide))
  refine lv_iload_n hx hb dL_due_41 rfl (lv_at hl 0 rfl) ?_
  refine lv_bipush (v := nI 8) hx hb dL_due_42 (by decide) ?_
  refine n_icmp_ne (a := 4) (b := 8) (tgt := 57) hx hb (by decide) (by decide) dL_due_44 (by decide) (fun c_4 => ?_) (fun h9 => absurd h9 (by decide))
  refine n_iconst hx hb 0 dL_due_57 (by decide) ?_
  refine lv_istore (lv' := [(8, .int (nI 0)), (0, .int (nI 4)), (1, .int (nI a)), (2, .int (nI ee)), (3, .int (nI tu)), (4, .ref aq), (5, .ref at9), (6, .ref ar), (7, .ref ab)]) hx hb dL_due_58 hl (by decide) rfl (fun ls hl => ?_)
  refine lv_iload_n hx hb dL_due_60 rfl (lv_at hl 1 rfl) ?_
  refine n_tab (a := 4) (off := 184) (tgt := 245) hx hb (by decide) dL_due_61 (by decide) (by decide) rfl (by decide) ?_
  refine lv_aload hx hb dL_due_245 (lv_at hl 5 rfl) ?_
  refine n_iconst hx hb 0 dL_due_247 (by decide) ?_
  refine lv_dup2_11 hx hb dL_due_248 rfl rfl ?_
  refine n_iald hx hb hK hP 0 0 rfl rfl 0 (by decide) (by decide) dL_due_249 ?_
  refine n_iconst hx hb 1 dL_due_250 (by decide) ?_
  refine lv_iadd hx hb dL_due_251 ?_
  refine n_iast hx hb hK hP hD hS 0 0 rfl rfl 0 (by decide) (by decide) dL_due_252 (fun H locs hP hD hS => ?_)
  have hP : va_P G vwCl [(aq, .inl (T 0, 12, .inl (upd fq 0 ((fq 0) + (nI 1))))), (at9, .inl (T 0, 60, .inl ft)), (ar, .inl (T 0, 30, .inl fr)), (ab, .inl (T 0, 3, .inl fb))] H := hP
  have hD : va_D A [(aq, .inl (T 0, 12, .inl (upd fq 0 ((fq 0) + (nI 1))))), (at9, .inl (T 0, 60, .inl ft)), (ar, .inl (T 0, 30, .inl fr)), (ab, .inl (T 0, 3, .inl fb))] := hD
  have hP : va_P G vwCl [(aq, .inl (T 0, 12, .inl (vD4q fq))), (at9, .inl (T 0, 60, .inl ft)), (ar, .inl (T 0, 30, .inl fr)), (ab, .inl (T 0, 3, .inl fb))] H := hP
  have hD : va_D A [(aq, .inl (T 0, 12, .inl (vD4q fq))), (at9, .inl (T 0, 60, .inl ft)), (ar, .inl (T 0, 30, .inl fr)), (ab, .inl (T 0, 3, .inl fb))] := hD
  refine n_iconst hx hb 0 dL_due_253 (by decide) ?_
  refine lv_istore (lv' := [(10, .int (nI 0)), (8, .int (nI 0)), (0, .int (nI 4)), (1, .int (nI a)), (2, .int (nI ee)), (3, .int (nI tu)), (4, .ref aq), (5, .ref at9), (6, .ref ar), (7, .ref ab)]) hx hb dL_due_254 hl (by decide) rfl (fun ls hl => ?_)
  have L256 : ∀ (n9 k : Nat) (hk1 : k ≤ 6) (hk2 : 6 - k < n9) (x10 : Int32) (B_5 : Nat → Int32) (hx10 : x10 = nI k) (hB_5 : B_5 = vD4r (vD4q fq) fr k) (H : Heap) (locs : List Loc) (hP : va_P G vwCl [(aq, .inl (T 0, 12, .inl (vD4q fq))), (at9, .inl (T 0, 60, .inl ft)), (ar, .inl (T 0, 30, .inl B_5)), (ab, .inl (T 0, 3, .inl fb))] H) (hD : va_D A [(aq, .inl (T 0, 12, .inl (vD4q fq))), (at9, .inl (T 0, 60, .inl ft)), (ar, .inl (T 0, 30, .inl B_5)), (ab, .inl (T 0, 3, .inl fb))]) (hS : va_S A s.heap H locs) (ls : Array Slot) (hl : lv_has ls 11 [(10, .int x10), (8, .int (nI 0)), (0, .int (nI 4)), (1, .int (nI a)), (2, .int (nI ee)), (3, .int (nI tu)), (4, .ref aq), (5, .ref at9), (6, .ref ar), (7, .ref ab)]), W p l e (headSpec wsL_due (rmD 3 0 0)).room s m args below meth c H locs 0 0 Q0 (F0 m 256 ls []) := by
    intro n9
    induction n9 with
    | zero => intros; omega
    | succ n9 ih256 =>
      intro k hk1 hk2 x10 B_5 hx10 hB_5 H locs hP hD hS ls hl
      subst hx10 hB_5
      refine lv_iload hx hb dL_due_256 (lv_at hl 0 rfl) ?_
      refine lv_bipush (v := nI 6) hx hb dL_due_258 (by decide) ?_
      refine n_icmp_ge (a := k) (b := 6) (tgt := 311) hx hb (by omega) (by decide) dL_due_260 (by decide) (fun c_6 => ?_) (fun c_7 => ?_)
      · skip
        have hk6 : k = 6 := (by omega)
        subst hk6
        refine lv_aload hx hb dL_due_311 (lv_at hl 6 rfl) ?_
        refine n_iconst hx hb 0 dL_due_313 (by decide) ?_
        refine n_iald hx hb hK hP 0 0 rfl rfl 0 (by decide) (by decide) dL_due_314 ?_
        subst hQ
        have hP9 : va_P G vwCl ([(aq, .inl (T 0, 12, .inl (vD4q fq)))] ++ [(at9, .inl (T 0, 60, .inl ft))] ++ [(ar, .inl (T 0, 30, .inl (vD4r (vD4q fq) fr 6)))] ++ [(ab, .inl (T 0, 3, .inl fb))]) H := hP
        have hD9 : va_D A ([(aq, .inl (T 0, 12, .inl (vD4q fq)))] ++ [(at9, .inl (T 0, 60, .inl ft))] ++ [(ar, .inl (T 0, 30, .inl (vD4r (vD4q fq) fr 6)))] ++ [(ab, .inl (T 0, 3, .inl fb))]) := hD
        exact e_rwi hx hb hr hlocks hS rfl hP9 hD9 dL_due_315
      · skip
        refine lv_aload hx hb dL_due_263 (lv_at hl 8 rfl) ?_
        refine n_iconst hx hb 5 dL_due_265 (by decide) ?_
        refine lv_iload hx hb dL_due_266 (lv_at hl 0 rfl) ?_
        refine n_imul (a := 5) (b := k) hx hb dL_due_268 ?_
        refine n_iconst hx hb 2 dL_due_269 (by decide) ?_
        refine n_iadd (a := 5 * k) (b := 2) hx hb dL_due_270 ?_
        refine n_iconst hx hb 0 dL_due_271 (by decide) ?_
        refine n_iast hx hb hK hP hD hS 2 0 rfl rfl (5 * k + 2) (by omega) (by decide) dL_due_272 (fun H locs hP hD hS => ?_)
        have hP : va_P G vwCl [(aq, .inl (T 0, 12, .inl (vD4q fq))), (at9, .inl (T 0, 60, .inl ft)), (ar, .inl (T 0, 30, .inl (upd (vD4r (vD4q fq) fr k) (5 * k + 2) (nI 0)))), (ab, .inl (T 0, 3, .inl fb))] H := hP
        have hD : va_D A [(aq, .inl (T 0, 12, .inl (vD4q fq))), (at9, .inl (T 0, 60, .inl ft)), (ar, .inl (T 0, 30, .inl (upd (vD4r (vD4q fq) fr k) (5 * k + 2) (nI 0)))), (ab, .inl (T 0, 3, .inl fb))] := hD
        refine lv_aload hx hb dL_due_273 (lv_at hl 8 rfl) ?_
        refine n_iconst hx hb 5 dL_due_275 (by decide) ?_
        refine lv_iload hx hb dL_due_276 (lv_at hl 0 rfl) ?_
        refine n_imul (a := 5) (b := k) hx hb dL_due_278 ?_
        refine n_iconst hx hb 1 dL_due_279 (by decide) ?_
        refine n_iadd (a := 5 * k) (b := 1) hx hb dL_due_280 ?_
        refine lv_aload hx hb dL_due_281 (lv_at hl 6 rfl) ?_
        refine n_iconst hx hb 0 dL_due_283 (by decide) ?_
        refine n_iald hx hb hK hP 0 0 rfl rfl 0 (by decide) (by decide) dL_due_284 ?_
        refine lv_bipush (v := nI 7) hx hb dL_due_285 (by decide) ?_
        refine x_irem hx hb (nI_ne0 (by decide) (by decide)) dL_due_287 ?_
        have J_8 : ∀ y9 : Int32, y9 = (if iRem ((vD4q fq) 0) (nI 7) = 0 then nI 0 else (upd (vD4r (vD4q fq) fr k) (5 * k + 2) (nI 0)) (5 * k + 1)) → W p l e (headSpec wsL_due (rmD 3 0 0)).room s m args below meth c H locs 0 0 Q0 (F0 m 304 ls (.int y9 :: .int (nI (5 * k + 1)) :: .ref ar :: [])) := by
          intro y9 hy9
          subst hy9
          refine n_iast hx hb hK hP hD hS 2 0 rfl rfl (5 * k + 1) (by omega) (by decide) dL_due_304 (fun H locs hP hD hS => ?_)
          have hP : va_P G vwCl [(aq, .inl (T 0, 12, .inl (vD4q fq))), (at9, .inl (T 0, 60, .inl ft)), (ar, .inl (T 0, 30, .inl (upd (upd (vD4r (vD4q fq) fr k) (5 * k + 2) (nI 0)) (5 * k + 1) (if iRem ((vD4q fq) 0) (nI 7) = 0 then nI 0 else (upd (vD4r (vD4q fq) fr k) (5 * k + 2) (nI 0)) (5 * k + 1))))), (ab, .inl (T 0, 3, .inl fb))] H := hP
          have hD : va_D A [(aq, .inl (T 0, 12, .inl (vD4q fq))), (at9, .inl (T 0, 60, .inl ft)), (ar, .inl (T 0, 30, .inl (upd (upd (vD4r (vD4q fq) fr k) (5 * k + 2) (nI 0)) (5 * k + 1) (if iRem ((vD4q fq) 0) (nI 7) = 0 then nI 0 else (upd (vD4r (vD4q fq) fr k) (5 * k + 2) (nI 0)) (5 * k + 1))))), (ab, .inl (T 0, 3, .inl fb))] := hD
          refine lv_iinc (v := nI (k + 1)) (lv' := [(10, .int (nI (k + 1))), (8, .int (nI 0)), (0, .int (nI 4)), (1, .int (nI a)), (2, .int (nI ee)), (3, .int (nI tu)), (4, .ref aq), (5, .ref at9), (6, .ref ar), (7, .ref ab)]) hx hb dL_due_305 hl (k := 0) rfl (n_inc k 1 rfl) (by decide) rfl (fun ls hl => ?_)
          refine lv_goto (tgt := 256) hx hb dL_due_308 (by decide) ?_
          have e_9 : (upd (upd (vD4r (vD4q fq) fr k) (5 * k + 2) (nI 0)) (5 * k + 1) (if iRem ((vD4q fq) 0) (nI 7) = 0 then nI 0 else (upd (vD4r (vD4q fq) fr k) (5 * k + 2) (nI 0)) (5 * k + 1))) = vD4r (vD4q fq) fr (k + 1) := rfl
          exact ih256 (k + 1) (by omega) (by omega) _ _ rfl e_9 _ _ hP hD hS _ (lv_sub hl [0, 1, 2, 3, 4, 5, 6, 7, 8, 9] rfl)
        refine lv_if_ne (tgt := 295) hx hb dL_due_288 (by decide) (fun c_10 => ?_) (fun c_11 => ?_)
        · skip
          refine lv_aload hx hb dL_due_295 (lv_at hl 8 rfl) ?_
          refine n_iconst hx hb 5 dL_due_297 (by decide) ?_
          refine lv_iload hx hb dL_due_298 (lv_at hl 0 rfl) ?_
          refine n_imul (a := 5) (b := k) hx hb dL_due_300 ?_
          refine n_iconst hx hb 1 dL_due_301 (by decide) ?_
          refine n_iadd (a := 5 * k) (b := 1) hx hb dL_due_302 ?_
          refine n_iald hx hb hK hP 2 0 rfl rfl (5 * k + 1) (by omega) (by decide) dL_due_303 ?_
          exact J_8 _ (by first | rw [if_pos c_10] | rw [if_neg c_10])
        · skip
          refine n_iconst hx hb 0 dL_due_291 (by decide) ?_
          refine lv_goto (tgt := 304) hx hb dL_due_292 (by decide) ?_
          exact J_8 _ (by first | rw [if_pos c_11] | rw [if_neg c_11])
  exact L256 (6 + 1) 0 (by omega) (by omega) _ _ rfl rfl _ _ hP hD hS _ (lv_sub hl [0, 1, 2, 3, 4, 5, 6, 7, 8, 9] rfl)
set_option maxHeartbeats 4000000 in
set_option maxRecDepth 100000 in
theorem c_L_due_5 (l : Launch) (G : va_G) (T : Nat → ClassId) (sz : Nat) (aq : Nat) (fq : Nat → Int32) (at9 : Nat) (ft : Nat → Int32) (ar : Nat) (fr : Nat → Int32) (ab : Nat) (fb : Nat → Int32) (tn : Nat → Nat) (a : Nat) (ee : Nat) (tu : Nat) (htn : ∀ i : Nat, i < 20 → ft i = nI (tn i)) (htn9 : ∀ i : Nat, i < 20 → tn i < 167772160) (htu : tu < 167772160) (ha3 : a < 3) (he20 : ee < 20) (hz5 : x6 ((vD5q fq a ee) 2)) : RWi l yL_due wsL_due 3 0 0 G T sz ([(aq, .inl (T 0, 12, .inl fq))] ++ [(at9, .inl (T 0, 60, .inl ft))] ++ [(ar, .inl (T 0, 30, .inl fr))] ++ [(ab, .inl (T 0, 3, .inl fb))]) [.int (nI 5), .int (nI a), .int (nI ee), .int (nI tu), .ref aq, .ref at9, .ref ar, .ref ab] (pBC ((vD5q fq a ee) 2)) ([(aq, .inl (T 0, 12, .inl (vD5q fq a ee)))] ++ [(at9, .inl (T 0, 60, .inl ft))] ++ [(ar, .inl (T 0, 30, .inl fr))] ++ [(ab, .inl (T 0, 3, .inl fb))]) := by
  refine Met.ofW (cc := cL_due) (maxL := 11) (ret := (some .int)) (by decide) rfl ?_
  intro p e s m args below meth c s₁ B hml hv
  obtain ⟨ha, hsz, hP, hK, hD0, hE0⟩ := hv
  have hx := B.exec
  have hb := B.bytes
  have hr := B.returns
  have hlocks := B.notSynchronized
  have hts := atoms_spec (ws := wsL_due) B.pre
  have hown : s.vm.findClass RL = some m.cls := findClass_of_methodNamed B.named
  have cx : CallFix p m c cL_due 11 s args wsL_due RL := ⟨hx, hb, hml, hown, hts⟩
  subst hsz
  have hD := hD0.self (sz := s.heap.size)
  generalize hAe : va_A ([(aq, .inl (T 0, 12, .inl fq))] ++ [(at9, .inl (T 0, 60, .inl ft))] ++ [(ar, .inl (T 0, 30, .inl fr))] ++ [(ab, .inl (T 0, 3, .inl fb))]) s.heap.size = A at hD hE0 ⊢
  have hE : gE A s s.heap := hE0
  have hA : ∀ q : Nat, s.heap.size ≤ q → A q := fun q h => by rw [← hAe]; exact Or.inr h
  have hS : va_S A s.heap s.heap [] := va_S.rf
  refine w_entry ha (Nat.le_of_ble_eq_true rfl) (fun ls hl => ?_)
  refine w_q (fun Q0 hQ => ?_)
  have hl : lv_has ls 11 [(0, .int (nI 5)), (1, .int (nI a)), (2, .int (nI ee)), (3, .int (nI tu)), (4, .ref aq), (5, .ref at9), (6, .ref ar), (7, .ref ab)] := hl
  have hP : va_P G vwCl [(aq, .inl (T 0, 12, .inl fq)), (at9, .inl (T 0, 60, .inl ft)), (ar, .inl (T 0, 30, .inl fr)), (ab, .inl (T 0, 3, .inl fb))] s.heap := hP
  have hD : va_D A [(aq, .inl (T 0, 12, .inl fq)), (at9, .inl (T 0, 60, .inl ft)), (ar, .inl (T 0, 30, .inl fr)), (ab, .inl (T 0, 3, .inl fb))] := hD
  skip
  refine w_h (fun H locs hHe hLe => ?_)
  have hP : va_P G vwCl [(aq, .inl (T 0, 12, .inl fq)), (at9, .inl (T 0, 60, .inl ft)), (ar, .inl (T 0, 30, .inl fr)), (ab, .inl (T 0, 3, .inl fb))] H := by rw [hHe]; exact hP
  have hS : va_S A s.heap H locs := by rw [hHe, hLe]; exact hS
  refine lv_iload_n hx hb dL_due_0 rfl (lv_at hl 0 rfl) ?_
  refine n_iconst hx hb 2 dL_due_1 (by decide) ?_
  refine n_icmp_ne (a := 5) (b := 2) (tgt := 14) hx hb (by decide) (by decide) dL_due_2 (by decide) (fun c_1 => ?_) (fun h9 => absurd h9 (by decide))
  refine lv_iload_n hx hb dL_due_14 rfl (lv_at hl 0 rfl) ?_
  refine n_iconst hx hb 3 dL_due_15 (by decide) ?_
  refine n_icmp_ne (a := 5) (b := 3) (tgt := 26) hx hb (by decide) (by decide) dL_due_16 (by decide) (fun c_2 => ?_) (fun h9 => absurd h9 (by decide))
  refine lv_iload_n hx hb dL_due_26 rfl (lv_at hl 0 rfl) ?_
  refine lv_bipush (v := nI 7) hx hb dL_due_27 (by decide) ?_
  refine n_icmp_ne (a := 5) (b := 7) (tgt := 41) hx hb (by decide) (by decide) dL_due_29 (by decide) (fun c_3 => ?_) (fun h9 => absurd h9 (by decide))
  refine lv_iload_n hx hb dL_due_41 rfl (lv_at hl 0 rfl) ?_
  refine lv_bipush (v := nI 8) hx hb dL_due_42 (by decide) ?_
  refine n_icmp_ne (a := 5) (b := 8) (tgt := 57) hx hb (by decide) (by decide) dL_due_44 (by decide) (fun c_4 => ?_) (fun h9 => absurd h9 (by decide))
  refine n_iconst hx hb 0 dL_due_57 (by decide) ?_
  refine lv_istore (lv' := [(8, .int (nI 0)), (0, .int (nI 5)), (1, .int (nI a)), (2, .int (nI ee)), (3, .int (nI tu)), (4, .ref aq), (5, .ref at9), (6, .ref ar), (7, .ref ab)]) hx hb dL_due_58 hl (by decide) rfl (fun ls hl => ?_)
  refine lv_iload_n hx hb dL_due_60 rfl (lv_at hl 1 rfl) ?_
  refine n_tab (a := 5) (off := 255) (tgt := 316) hx hb (by decide) dL_due_61 (by decide) (by decide) rfl (by decide) ?_
  refine lv_aload hx hb dL_due_316 (lv_at hl 5 rfl) ?_
  refine n_iconst hx hb 2 dL_due_318 (by decide) ?_
  refine lv_iload_n hx hb dL_due_319 rfl (lv_at hl 3 rfl) ?_
  refine n_iconst hx hb 2 dL_due_320 (by decide) ?_
  refine n_irem (a := ee) (b := 2) hx hb (by omega) (by decide) (by decide) dL_due_321 ?_
  refine n_iconst hx hb 1 dL_due_322 (by decide) ?_
  have J_5 : ∀ y9 : Int32, y9 = (if ee % 2 = 1 then fq 2 ||| iShl (nI 1) (nI a) else fq 2 &&& (iShl (nI 1) (nI a) ^^^ -1)) → W p l e (headSpec wsL_due (rmD 3 0 0)).room s m args below meth c H locs 0 0 Q0 (F0 m 347 ls (.int y9 :: .int (nI 2) :: .ref aq :: [])) := by
    intro y9 hy9
    subst hy9
    refine n_iast hx hb hK hP hD hS 0 0 rfl rfl 2 (by decide) (by decide) dL_due_347 (fun H locs hP hD hS => ?_)
    have hP : va_P G vwCl [(aq, .inl (T 0, 12, .inl (upd fq 2 (if ee % 2 = 1 then fq 2 ||| iShl (nI 1) (nI a) else fq 2 &&& (iShl (nI 1) (nI a) ^^^ -1))))), (at9, .inl (T 0, 60, .inl ft)), (ar, .inl (T 0, 30, .inl fr)), (ab, .inl (T 0, 3, .inl fb))] H := hP
    have hD : va_D A [(aq, .inl (T 0, 12, .inl (upd fq 2 (if ee % 2 = 1 then fq 2 ||| iShl (nI 1) (nI a) else fq 2 &&& (iShl (nI 1) (nI a) ^^^ -1))))), (at9, .inl (T 0, 60, .inl ft)), (ar, .inl (T 0, 30, .inl fr)), (ab, .inl (T 0, 3, .inl fb))] := hD
    have hP : va_P G vwCl [(aq, .inl (T 0, 12, .inl (vD5q fq a ee))), (at9, .inl (T 0, 60, .inl ft)), (ar, .inl (T 0, 30, .inl fr)), (ab, .inl (T 0, 3, .inl fb))] H := hP
    have hD : va_D A [(aq, .inl (T 0, 12, .inl (vD5q fq a ee))), (at9, .inl (T 0, 60, .inl ft)), (ar, .inl (T 0, 30, .inl fr)), (ab, .inl (T 0, 3, .inl fb))] := hD
    refine lv_aload hx hb dL_due_348 (lv_at hl 5 rfl) ?_
    refine n_iconst hx hb 2 dL_due_350 (by decide) ?_
    refine n_iald hx hb hK hP 0 0 rfl rfl 2 (by decide) (by decide) dL_due_351 ?_
    refine k_roS (As := [.int ((vD5q fq a ee) 2)]) (rest := []) (wc := []) (d := 0) (v := pBC ((vD5q fq a ee) 2)) cx (c_L_ones l G T A ((vD5q fq a ee) 2) hz5) (va_cwS 1 hts gL_due_L_ones rfl rfl rfl (by decide +kernel) ⟨Nat.le_of_ble_eq_true rfl, Nat.le_of_ble_eq_true rfl⟩) (hP.sub (ws' := []) [] rfl) hK (hE.kept hS.2.1) rfl hl.1 rfl (Nat.le_of_ble_eq_true rfl) dL_due_352 ⟨Nat.le_of_ble_eq_true rfl, Nat.le_of_ble_eq_true rfl⟩ ?_
    subst hQ
    have hP9 : va_P G vwCl ([(aq, .inl (T 0, 12, .inl (vD5q fq a ee)))] ++ [(at9, .inl (T 0, 60, .inl ft))] ++ [(ar, .inl (T 0, 30, .inl fr))] ++ [(ab, .inl (T 0, 3, .inl fb))]) H := hP
    have hD9 : va_D A ([(aq, .inl (T 0, 12, .inl (vD5q fq a ee)))] ++ [(at9, .inl (T 0, 60, .inl ft))] ++ [(ar, .inl (T 0, 30, .inl fr))] ++ [(ab, .inl (T 0, 3, .inl fb))]) := hD
    exact e_rwi hx hb hr hlocks hS rfl hP9 hD9 dL_due_355
  refine n_icmp_ne (a := ee % 2) (b := 1) (tgt := 337) hx hb (by omega) (by decide) dL_due_323 (by decide) (fun c_6 => ?_) (fun c_7 => ?_)
  · skip
    refine lv_aload hx hb dL_due_337 (lv_at hl 5 rfl) ?_
    refine n_iconst hx hb 2 dL_due_339 (by decide) ?_
    refine n_iald hx hb hK hP 0 0 rfl rfl 2 (by decide) (by decide) dL_due_340 ?_
    refine n_iconst hx hb 1 dL_due_341 (by decide) ?_
    refine lv_iload_n hx hb dL_due_342 rfl (lv_at hl 2 rfl) ?_
    refine x_ishl hx hb dL_due_343 ?_
    refine lv_iconst (v := -1) hx hb dL_due_344 (by decide) ?_
    refine lv_ixor hx hb dL_due_345 ?_
    refine lv_iand hx hb dL_due_346 ?_
    exact J_5 _ (by first | rw [if_pos c_6] | rw [if_neg c_6])
  · skip
    refine lv_aload hx hb dL_due_326 (lv_at hl 5 rfl) ?_
    refine n_iconst hx hb 2 dL_due_328 (by decide) ?_
    refine n_iald hx hb hK hP 0 0 rfl rfl 2 (by decide) (by decide) dL_due_329 ?_
    refine n_iconst hx hb 1 dL_due_330 (by decide) ?_
    refine lv_iload_n hx hb dL_due_331 rfl (lv_at hl 2 rfl) ?_
    refine x_ishl hx hb dL_due_332 ?_
    refine lv_ior hx hb dL_due_333 ?_
    refine lv_goto (tgt := 347) hx hb dL_due_334 (by decide) ?_
    exact J_5 _ (by first | rw [if_pos c_7] | rw [if_neg c_7])
set_option maxHeartbeats 4000000 in
set_option maxRecDepth 100000 in
theorem c_L_due_6 (l : Launch) (G : va_G) (T : Nat → ClassId) (sz : Nat) (aq : Nat) (fq : Nat → Int32) (at9 : Nat) (ft : Nat → Int32) (ar : Nat) (fr : Nat → Int32) (ab : Nat) (fb : Nat → Int32) (tn : Nat → Nat) (a : Nat) (ee : Nat) (tu : Nat) (htn : ∀ i : Nat, i < 20 → ft i = nI (tn i)) (htn9 : ∀ i : Nat, i < 20 → tn i < 167772160) (htu : tu < 167772160) (ha3 : a < 3) (he20 : ee < 20) : RWi l yL_due wsL_due 3 0 0 G T sz ([(aq, .inl (T 0, 12, .inl fq))] ++ [(at9, .inl (T 0, 60, .inl ft))] ++ [(ar, .inl (T 0, 30, .inl fr))] ++ [(ab, .inl (T 0, 3, .inl fb))]) [.int (nI 6), .int (nI a), .int (nI ee), .int (nI tu), .ref aq, .ref at9, .ref ar, .ref ab] (iShr ((vD6b fb a ee) a) (nI ee) &&& nI 1) ([(aq, .inl (T 0, 12, .inl fq))] ++ [(at9, .inl (T 0, 60, .inl ft))] ++ [(ar, .inl (T 0, 30, .inl fr))] ++ [(ab, .inl (T 0, 3, .inl (vD6b fb a ee)))]) := by
  refine Met.ofW (cc := cL_due) (maxL := 11) (ret := (some .int)) (by decide) rfl ?_
  intro p e s m args below meth c s₁ B hml hv
  obtain ⟨ha, hsz, hP, hK, hD0, hE0⟩ := hv
  have hx := B.exec
  have hb := B.bytes
  have hr := B.returns
  have hlocks := B.notSynchronized
  have hts := atoms_spec (ws := wsL_due) B.pre
  have hown : s.vm.findClass RL = some m.cls := findClass_of_methodNamed B.named
  have cx : CallFix p m c cL_due 11 s args wsL_due RL := ⟨hx, hb, hml, hown, hts⟩
  subst hsz
  have hD := hD0.self (sz := s.heap.size)
  generalize hAe : va_A ([(aq, .inl (T 0, 12, .inl fq))] ++ [(at9, .inl (T 0, 60, .inl ft))] ++ [(ar, .inl (T 0, 30, .inl fr))] ++ [(ab, .inl (T 0, 3, .inl fb))]) s.heap.size = A at hD hE0 ⊢
  have hE : gE A s s.heap := hE0
  have hA : ∀ q : Nat, s.heap.size ≤ q → A q := fun q h => by rw [← hAe]; exact Or.inr h
  have hS : va_S A s.heap s.heap [] := va_S.rf
  refine w_entry ha (Nat.le_of_ble_eq_true rfl) (fun ls hl => ?_)
  refine w_q (fun Q0 hQ => ?_)
  have hl : lv_has ls 11 [(0, .int (nI 6)), (1, .int (nI a)), (2, .int (nI ee)), (3, .int (nI tu)), (4, .ref aq), (5, .ref at9), (6, .ref ar), (7, .ref ab)] := hl
  have hP : va_P G vwCl [(aq, .inl (T 0, 12, .inl fq)), (at9, .inl (T 0, 60, .inl ft)), (ar, .inl (T 0, 30, .inl fr)), (ab, .inl (T 0, 3, .inl fb))] s.heap := hP
  have hD : va_D A [(aq, .inl (T 0, 12, .inl fq)), (at9, .inl (T 0, 60, .inl ft)), (ar, .inl (T 0, 30, .inl fr)), (ab, .inl (T 0, 3, .inl fb))] := hD
  skip
  refine w_h (fun H locs hHe hLe => ?_)
  have hP : va_P G vwCl [(aq, .inl (T 0, 12, .inl fq)), (at9, .inl (T 0, 60, .inl ft)), (ar, .inl (T 0, 30, .inl fr)), (ab, .inl (T 0, 3, .inl fb))] H := by rw [hHe]; exact hP
  have hS : va_S A s.heap H locs := by rw [hHe, hLe]; exact hS
  refine lv_iload_n hx hb dL_due_0 rfl (lv_at hl 0 rfl) ?_
  refine n_iconst hx hb 2 dL_due_1 (by decide) ?_
  refine n_icmp_ne (a := 6) (b := 2) (tgt := 14) hx hb (by decide) (by decide) dL_due_2 (by decide) (fun c_1 => ?_) (fun h9 => absurd h9 (by decide))
  refine lv_iload_n hx hb dL_due_14 rfl (lv_at hl 0 rfl) ?_
  refine n_iconst hx hb 3 dL_due_15 (by decide) ?_
  refine n_icmp_ne (a := 6) (b := 3) (tgt := 26) hx hb (by decide) (by decide) dL_due_16 (by decide) (fun c_2 => ?_) (fun h9 => absurd h9 (by decide))
  refine lv_iload_n hx hb dL_due_26 rfl (lv_at hl 0 rfl) ?_
  refine lv_bipush (v := nI 7) hx hb dL_due_27 (by decide) ?_
  refine n_icmp_ne (a := 6) (b := 7) (tgt := 41) hx hb (by decide) (by decide) dL_due_29 (by decide) (fun c_3 => ?_) (fun h9 => absurd h9 (by decide))
  refine lv_iload_n hx hb dL_due_41 rfl (lv_at hl 0 rfl) ?_
  refine lv_bipush (v := nI 8) hx hb dL_due_42 (by decide) ?_
  refine n_icmp_ne (a := 6) (b := 8) (tgt := 57) hx hb (by decide) (by decide) dL_due_44 (by decide) (fun c_4 => ?_) (fun h9 => absurd h9 (by decide))
  refine n_iconst hx hb 0 dL_due_57 (by decide) ?_
  refine lv_istore (lv' := [(8, .int (nI 0)), (0, .int (nI 6)), (1, .int (nI a)), (2, .int (nI ee)), (3, .int (nI tu)), (4, .ref aq), (5, .ref at9), (6, .ref ar), (7, .ref ab)]) hx hb dL_due_58 hl (by decide) rfl (fun ls hl => ?_)
  refine lv_iload_n hx hb dL_due_60 rfl (lv_at hl 1 rfl) ?_
  refine n_tab (a := 6) (off := 295) (tgt := 356) hx hb (by decide) dL_due_61 (by decide) (by decide) rfl (by decide) ?_
  refine lv_aload hx hb dL_due_356 (lv_at hl 8 rfl) ?_
  refine lv_iload_n hx hb dL_due_358 rfl (lv_at hl 2 rfl) ?_
  refine lv_dup2_11 hx hb dL_due_359 rfl rfl ?_
  refine n_iald hx hb hK hP 3 0 rfl rfl a (by omega) (by decide) dL_due_360 ?_
  refine n_iconst hx hb 1 dL_due_361 (by decide) ?_
  refine lv_iload_n hx hb dL_due_362 rfl (lv_at hl 3 rfl) ?_
  refine x_ishl hx hb dL_due_363 ?_
  refine lv_ixor hx hb dL_due_364 ?_
  refine n_iast hx hb hK hP hD hS 3 0 rfl rfl a (by omega) (by decide) dL_due_365 (fun H locs hP hD hS => ?_)
  have hP : va_P G vwCl [(aq, .inl (T 0, 12, .inl fq)), (at9, .inl (T 0, 60, .inl ft)), (ar, .inl (T 0, 30, .inl fr)), (ab, .inl (T 0, 3, .inl (upd fb a ((fb a) ^^^ (iShl (nI 1) (nI ee))))))] H := hP
  have hD : va_D A [(aq, .inl (T 0, 12, .inl fq)), (at9, .inl (T 0, 60, .inl ft)), (ar, .inl (T 0, 30, .inl fr)), (ab, .inl (T 0, 3, .inl (upd fb a ((fb a) ^^^ (iShl (nI 1) (nI ee))))))] := hD
  have hP : va_P G vwCl [(aq, .inl (T 0, 12, .inl fq)), (at9, .inl (T 0, 60, .inl ft)), (ar, .inl (T 0, 30, .inl fr)), (ab, .inl (T 0, 3, .inl (vD6b fb a ee)))] H := hP
  have hD : va_D A [(aq, .inl (T 0, 12, .inl fq)), (at9, .inl (T 0, 60, .inl ft)), (ar, .inl (T 0, 30, .inl fr)), (ab, .inl (T 0, 3, .inl (vD6b fb a ee)))] := hD
  refine lv_aload hx hb dL_due_366 (lv_at hl 8 rfl) ?_
  refine lv_iload_n hx hb dL_due_368 rfl (lv_at hl 2 rfl) ?_
  refine n_iald hx hb hK hP 3 0 rfl rfl a (by omega) (by decide) dL_due_369 ?_
  refine lv_iload_n hx hb dL_due_370 rfl (lv_at hl 3 rfl) ?_
  refine x_ishr hx hb dL_due_371 ?_
  refine n_iconst hx hb 1 dL_due_372 (by decide) ?_
  refine lv_iand hx hb dL_due_373 ?_
  subst hQ
  have hP9 : va_P G vwCl ([(aq, .inl (T 0, 12, .inl fq))] ++ [(at9, .inl (T 0, 60, .inl ft))] ++ [(ar, .inl (T 0, 30, .inl fr))] ++ [(ab, .inl (T 0, 3, .inl (vD6b fb a ee)))]) H := hP
  have hD9 : va_D A ([(aq, .inl (T 0, 12, .inl fq))] ++ [(at9, .inl (T 0, 60, .inl ft))] ++ [(ar, .inl (T 0, 30, .inl fr))] ++ [(ab, .inl (T 0, 3, .inl (vD6b fb a ee)))]) := hD
  exact e_rwi hx hb hr hlocks hS rfl hP9 hD9 dL_due_374
set_option maxHeartbeats 4000000 in
set_option maxRecDepth 100000 in
theorem c_L_due_7 (l : Launch) (G : va_G) (T : Nat → ClassId) (sz : Nat) (aq : Nat) (fq : Nat → Int32) (at9 : Nat) (ft : Nat → Int32) (ar : Nat) (fr : Nat → Int32) (ab : Nat) (fb : Nat → Int32) (tn : Nat → Nat) (a : Nat) (ee : Nat) (tu : Nat) (htn : ∀ i : Nat, i < 20 → ft i = nI (tn i)) (htn9 : ∀ i : Nat, i < 20 → tn i < 167772160) (htu : tu < 167772160) (ha2 : a < 2) (he20 : ee < 20) : RWi l yL_due wsL_due 3 0 0 G T sz ([(aq, .inl (T 0, 12, .inl fq))] ++ [(at9, .inl (T 0, 60, .inl ft))] ++ [(ar, .inl (T 0, 30, .inl fr))] ++ [(ab, .inl (T 0, 3, .inl fb))]) [.int (nI 7), .int (nI a), .int (nI ee), .int (nI tu), .ref aq, .ref at9, .ref ar, .ref ab] (fq (3 + a)) ([(aq, .inl (T 0, 12, .inl (vD7q fq a ee)))] ++ [(at9, .inl (T 0, 60, .inl ft))] ++ [(ar, .inl (T 0, 30, .inl fr))] ++ [(ab, .inl (T 0, 3, .inl fb))]) := by
  refine Met.ofW (cc := cL_due) (maxL := 11) (ret := (some .int)) (by decide) rfl ?_
  intro p e s m args below meth c s₁ B hml hv
  obtain ⟨ha, hsz, hP, hK, hD0, hE0⟩ := hv
  have hx := B.exec
  have hb := B.bytes
  have hr := B.returns
  have hlocks := B.notSynchronized
  have hts := atoms_spec (ws := wsL_due) B.pre
  have hown : s.vm.findClass RL = some m.cls := findClass_of_methodNamed B.named
  have cx : CallFix p m c cL_due 11 s args wsL_due RL := ⟨hx, hb, hml, hown, hts⟩
  subst hsz
  have hD := hD0.self (sz := s.heap.size)
  generalize hAe : va_A ([(aq, .inl (T 0, 12, .inl fq))] ++ [(at9, .inl (T 0, 60, .inl ft))] ++ [(ar, .inl (T 0, 30, .inl fr))] ++ [(ab, .inl (T 0, 3, .inl fb))]) s.heap.size = A at hD hE0 ⊢
  have hE : gE A s s.heap := hE0
  have hA : ∀ q : Nat, s.heap.size ≤ q → A q := fun q h => by rw [← hAe]; exact Or.inr h
  have hS : va_S A s.heap s.heap [] := va_S.rf
  refine w_entry ha (Nat.le_of_ble_eq_true rfl) (fun ls hl => ?_)
  refine w_q (fun Q0 hQ => ?_)
  have hl : lv_has ls 11 [(0, .int (nI 7)), (1, .int (nI a)), (2, .int (nI ee)), (3, .int (nI tu)), (4, .ref aq), (5, .ref at9), (6, .ref ar), (7, .ref ab)] := hl
  have hP : va_P G vwCl [(aq, .inl (T 0, 12, .inl fq)), (at9, .inl (T 0, 60, .inl ft)), (ar, .inl (T 0, 30, .inl fr)), (ab, .inl (T 0, 3, .inl fb))] s.heap := hP
  have hD : va_D A [(aq, .inl (T 0, 12, .inl fq)), (at9, .inl (T 0, 60, .inl ft)), (ar, .inl (T 0, 30, .inl fr)), (ab, .inl (T 0, 3, .inl fb))] := hD
  skip
  refine w_h (fun H locs hHe hLe => ?_)
  have hP : va_P G vwCl [(aq, .inl (T 0, 12, .inl fq)), (at9, .inl (T 0, 60, .inl ft)), (ar, .inl (T 0, 30, .inl fr)), (ab, .inl (T 0, 3, .inl fb))] H := by rw [hHe]; exact hP
  have hS : va_S A s.heap H locs := by rw [hHe, hLe]; exact hS
  refine lv_iload_n hx hb dL_due_0 rfl (lv_at hl 0 rfl) ?_
  refine n_iconst hx hb 2 dL_due_1 (by decide) ?_
  refine n_icmp_ne (a := 7) (b := 2) (tgt := 14) hx hb (by decide) (by decide) dL_due_2 (by decide) (fun c_1 => ?_) (fun h9 => absurd h9 (by decide))
  refine lv_iload_n hx hb dL_due_14 rfl (lv_at hl 0 rfl) ?_
  refine n_iconst hx hb 3 dL_due_15 (by decide) ?_
  refine n_icmp_ne (a := 7) (b := 3) (tgt := 26) hx hb (by decide) (by decide) dL_due_16 (by decide) (fun c_2 => ?_) (fun h9 => absurd h9 (by decide))
  refine lv_iload_n hx hb dL_due_26 rfl (lv_at hl 0 rfl) ?_
  refine lv_bipush (v := nI 7) hx hb dL_due_27 (by decide) ?_
  refine n_icmp_ne (a := 7) (b := 7) (tgt := 41) hx hb (by decide) (by decide) dL_due_29 (by decide) (fun h9 => absurd h9 (by decide)) (fun c_3 => ?_)
  refine lv_aload hx hb dL_due_32 (lv_at hl 4 rfl) ?_
  refine n_iconst hx hb 3 dL_due_34 (by decide) ?_
  refine lv_iload_n hx hb dL_due_35 rfl (lv_at hl 1 rfl) ?_
  refine n_iadd (a := 3) (b := a) hx hb dL_due_36 ?_
  refine n_iald hx hb hK hP 0 0 rfl rfl (3 + a) (by omega) (by decide) dL_due_37 ?_
  refine lv_goto (tgt := 58) hx hb dL_due_38 (by decide) ?_
  refine lv_istore (lv' := [(8, .int (fq (3 + a))), (0, .int (nI 7)), (1, .int (nI a)), (2, .int (nI ee)), (3, .int (nI tu)), (4, .ref aq), (5, .ref at9), (6, .ref ar), (7, .ref ab)]) hx hb dL_due_58 hl (by decide) rfl (fun ls hl => ?_)
  refine lv_iload_n hx hb dL_due_60 rfl (lv_at hl 1 rfl) ?_
  refine n_tab (a := 7) (off := 314) (tgt := 375) hx hb (by decide) dL_due_61 (by decide) (by decide) rfl (by decide) ?_
  refine lv_aload hx hb dL_due_375 (lv_at hl 5 rfl) ?_
  refine n_iconst hx hb 3 dL_due_377 (by decide) ?_
  refine lv_iload_n hx hb dL_due_378 rfl (lv_at hl 2 rfl) ?_
  refine n_iadd (a := 3) (b := a) hx hb dL_due_379 ?_
  refine lv_iload_n hx hb dL_due_380 rfl (lv_at hl 3 rfl) ?_
  refine n_iast hx hb hK hP hD hS 0 0 rfl rfl (3 + a) (by omega) (by decide) dL_due_381 (fun H locs hP hD hS => ?_)
  have hP : va_P G vwCl [(aq, .inl (T 0, 12, .inl (upd fq (3 + a) (nI ee)))), (at9, .inl (T 0, 60, .inl ft)), (ar, .inl (T 0, 30, .inl fr)), (ab, .inl (T 0, 3, .inl fb))] H := hP
  have hD : va_D A [(aq, .inl (T 0, 12, .inl (upd fq (3 + a) (nI ee)))), (at9, .inl (T 0, 60, .inl ft)), (ar, .inl (T 0, 30, .inl fr)), (ab, .inl (T 0, 3, .inl fb))] := hD
  refine lv_iload hx hb dL_due_382 (lv_at hl 0 rfl) ?_
  subst hQ
  have hP9 : va_P G vwCl ([(aq, .inl (T 0, 12, .inl (vD7q fq a ee)))] ++ [(at9, .inl (T 0, 60, .inl ft))] ++ [(ar, .inl (T 0, 30, .inl fr))] ++ [(ab, .inl (T 0, 3, .inl fb))]) H := hP
  have hD9 : va_D A ([(aq, .inl (T 0, 12, .inl (vD7q fq a ee)))] ++ [(at9, .inl (T 0, 60, .inl ft))] ++ [(ar, .inl (T 0, 30, .inl fr))] ++ [(ab, .inl (T 0, 3, .inl fb))]) := hD
  exact e_rwi hx hb hr hlocks hS rfl hP9 hD9 dL_due_384
set_option maxHeartbeats 4000000 in
set_option maxRecDepth 100000 in
theorem c_L_due_8 (l : Launch) (G : va_G) (T : Nat → ClassId) (sz : Nat) (aq : Nat) (fq : Nat → Int32) (at9 : Nat) (ft : Nat → Int32) (ar : Nat) (fr : Nat → Int32) (ab : Nat) (fb : Nat → Int32) (tn : Nat → Nat) (a : Nat) (ee : Nat) (tu : Nat) (htn : ∀ i : Nat, i < 20 → ft i = nI (tn i)) (htn9 : ∀ i : Nat, i < 20 → tn i < 167772160) (htu : tu < 167772160) (ha20 : a < 20) : RWi l yL_due wsL_due 3 0 0 G T sz ([(aq, .inl (T 0, 12, .inl fq))] ++ [(at9, .inl (T 0, 60, .inl ft))] ++ [(ar, .inl (T 0, 30, .inl fr))] ++ [(ab, .inl (T 0, 3, .inl fb))]) [.int (nI 8), .int (nI a), .int (nI ee), .int (nI tu), .ref aq, .ref at9, .ref ar, .ref ab] (nI (uMy (tn a))) ([(aq, .inl (T 0, 12, .inl fq))] ++ [(at9, .inl (T 0, 60, .inl (vD8t ft a)))] ++ [(ar, .inl (T 0, 30, .inl fr))] ++ [(ab, .inl (T 0, 3, .inl fb))]) := by
  refine Met.ofW (cc := cL_due) (maxL := 11) (ret := (some .int)) (by decide) rfl ?_
  intro p e s m args below meth c s₁ B hml hv
  obtain ⟨ha, hsz, hP, hK, hD0, hE0⟩ := hv
  have hx := B.exec
  have hb := B.bytes
  have hr := B.returns
  have hlocks := B.notSynchronized
  have hts := atoms_spec (ws := wsL_due) B.pre
  have hown : s.vm.findClass RL = some m.cls := findClass_of_methodNamed B.named
  have cx : CallFix p m c cL_due 11 s args wsL_due RL := ⟨hx, hb, hml, hown, hts⟩
  subst hsz
  have hD := hD0.self (sz := s.heap.size)
  generalize hAe : va_A ([(aq, .inl (T 0, 12, .inl fq))] ++ [(at9, .inl (T 0, 60, .inl ft))] ++ [(ar, .inl (T 0, 30, .inl fr))] ++ [(ab, .inl (T 0, 3, .inl fb))]) s.heap.size = A at hD hE0 ⊢
  have hE : gE A s s.heap := hE0
  have hA : ∀ q : Nat, s.heap.size ≤ q → A q := fun q h => by rw [← hAe]; exact Or.inr h
  have hS : va_S A s.heap s.heap [] := va_S.rf
  refine w_entry ha (Nat.le_of_ble_eq_true rfl) (fun ls hl => ?_)
  refine w_q (fun Q0 hQ => ?_)
  have hl : lv_has ls 11 [(0, .int (nI 8)), (1, .int (nI a)), (2, .int (nI ee)), (3, .int (nI tu)), (4, .ref aq), (5, .ref at9), (6, .ref ar), (7, .ref ab)] := hl
  have hP : va_P G vwCl [(aq, .inl (T 0, 12, .inl fq)), (at9, .inl (T 0, 60, .inl ft)), (ar, .inl (T 0, 30, .inl fr)), (ab, .inl (T 0, 3, .inl fb))] s.heap := hP
  have hD : va_D A [(aq, .inl (T 0, 12, .inl fq)), (at9, .inl (T 0, 60, .inl ft)), (ar, .inl (T 0, 30, .inl fr)), (ab, .inl (T 0, 3, .inl fb))] := hD
  skip
  have hta := htn9 a ha20
  refine w_h (fun H locs hHe hLe => ?_)
  have hP : va_P G vwCl [(aq, .inl (T 0, 12, .inl fq)), (at9, .inl (T 0, 60, .inl ft)), (ar, .inl (T 0, 30, .inl fr)), (ab, .inl (T 0, 3, .inl fb))] H := by rw [hHe]; exact hP
  have hS : va_S A s.heap H locs := by rw [hHe, hLe]; exact hS
  refine lv_iload_n hx hb dL_due_0 rfl (lv_at hl 0 rfl) ?_
  refine n_iconst hx hb 2 dL_due_1 (by decide) ?_
  refine n_icmp_ne (a := 8) (b := 2) (tgt := 14) hx hb (by decide) (by decide) dL_due_2 (by decide) (fun c_1 => ?_) (fun h9 => absurd h9 (by decide))
  refine lv_iload_n hx hb dL_due_14 rfl (lv_at hl 0 rfl) ?_
  refine n_iconst hx hb 3 dL_due_15 (by decide) ?_
  refine n_icmp_ne (a := 8) (b := 3) (tgt := 26) hx hb (by decide) (by decide) dL_due_16 (by decide) (fun c_2 => ?_) (fun h9 => absurd h9 (by decide))
  refine lv_iload_n hx hb dL_due_26 rfl (lv_at hl 0 rfl) ?_
  refine lv_bipush (v := nI 7) hx hb dL_due_27 (by decide) ?_
  refine n_icmp_ne (a := 8) (b := 7) (tgt := 41) hx hb (by decide) (by decide) dL_due_29 (by decide) (fun c_3 => ?_) (fun h9 => absurd h9 (by decide))
  refine lv_iload_n hx hb dL_due_41 rfl (lv_at hl 0 rfl) ?_
  refine lv_bipush (v := nI 8) hx hb dL_due_42 (by decide) ?_
  refine n_icmp_ne (a := 8) (b := 8) (tgt := 57) hx hb (by decide) (by decide) dL_due_44 (by decide) (fun h9 => absurd h9 (by decide)) (fun c_4 => ?_)
  refine lv_aload hx hb dL_due_47 (lv_at hl 5 rfl) ?_
  refine lv_iload_n hx hb dL_due_49 rfl (lv_at hl 1 rfl) ?_
  refine n_iald hx hb hK hP 1 0 rfl rfl a (by omega) (by decide) dL_due_50 ?_
  refine n_top (y := nI (tn a)) (htn _ (by omega)) ?_
  refine k_roS (As := [.int (nI (tn a))]) (rest := []) (wc := []) (d := 0) (v := nI (uMy (tn a))) cx (c_L_many l G T A (tn a) (by omega)) (va_cwS 1 hts gL_due_L_many rfl rfl rfl (by decide +kernel) ⟨Nat.le_of_ble_eq_true rfl, Nat.le_of_ble_eq_true rfl⟩) (hP.sub (ws' := []) [] rfl) hK (hE.kept hS.2.1) rfl hl.1 rfl (Nat.le_of_ble_eq_true rfl) dL_due_51 ⟨Nat.le_of_ble_eq_true rfl, Nat.le_of_ble_eq_true rfl⟩ ?_
  refine lv_goto (tgt := 58) hx hb dL_due_54 (by decide) ?_
  refine lv_istore (lv' := [(8, .int (nI (uMy (tn a)))), (0, .int (nI 8)), (1, .int (nI a)), (2, .int (nI ee)), (3, .int (nI tu)), (4, .ref aq), (5, .ref at9), (6, .ref ar), (7, .ref ab)]) hx hb dL_due_58 hl (by decide) rfl (fun ls hl => ?_)
  refine lv_iload_n hx hb dL_due_60 rfl (lv_at hl 1 rfl) ?_
  refine n_tabO (tgt := 385) hx hb dL_due_61 0 8 (by decide) rfl rfl (by decide) ?_
  refine lv_aload hx hb dL_due_385 (lv_at hl 6 rfl) ?_
  refine lv_iload_n hx hb dL_due_387 rfl (lv_at hl 2 rfl) ?_
  refine n_iconst hx hb 0 dL_due_388 (by decide) ?_
  refine n_iast hx hb hK hP hD hS 1 0 rfl rfl a (by omega) (by decide) dL_due_389 (fun H locs hP hD hS => ?_)
  have hP : va_P G vwCl [(aq, .inl (T 0, 12, .inl fq)), (at9, .inl (T 0, 60, .inl (upd ft a (nI 0)))), (ar, .inl (T 0, 30, .inl fr)), (ab, .inl (T 0, 3, .inl fb))] H := hP
  have hD : va_D A [(aq, .inl (T 0, 12, .inl fq)), (at9, .inl (T 0, 60, .inl (upd ft a (nI 0)))), (ar, .inl (T 0, 30, .inl fr)), (ab, .inl (T 0, 3, .inl fb))] := hD
  refine lv_iload hx hb dL_due_390 (lv_at hl 0 rfl) ?_
  subst hQ
  have hP9 : va_P G vwCl ([(aq, .inl (T 0, 12, .inl fq))] ++ [(at9, .inl (T 0, 60, .inl (vD8t ft a)))] ++ [(ar, .inl (T 0, 30, .inl fr))] ++ [(ab, .inl (T 0, 3, .inl fb))]) H := hP
  have hD9 : va_D A ([(aq, .inl (T 0, 12, .inl fq))] ++ [(at9, .inl (T 0, 60, .inl (vD8t ft a)))] ++ [(ar, .inl (T 0, 30, .inl fr))] ++ [(ab, .inl (T 0, 3, .inl fb))]) := hD
  exact e_rwi hx hb hr hlocks hS rfl hP9 hD9 dL_due_392
