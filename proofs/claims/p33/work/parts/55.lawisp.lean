/-! the law's looks at WhistleTunes beside its own numbers (printed by wip/p33/s62.py) -/
def vWho (fb : Nat → Int32) (m : Nat) : Int32 := (iShr (fb 0) (nI m) &&& nI 1) + nI 2 * (iShr (fb 1) (nI m) &&& nI 1) + nI 4 * (iShr (fb 2) (nI m) &&& nI 1)
def vCan (fq fr fb : Nat → Int32) (tn : Nat → Nat) (m k : Nat) : Bool := decide (vWy fq fr tn k m = 0 ∧ vBr fq fr fb k m 2 = 0)
def vBe (fq fr fb : Nat → Int32) (tn : Nat → Nat) (m : Nat) : Nat → Int32 × Int32 | 0 => (-1, -1) | k + 1 => (if vCan fq fr fb tn m k = true ∧ ¬ pBC (vBr fq fr fb k m 1) ≤ (vBe fq fr fb tn m k).2 then nI k else (vBe fq fr fb tn m k).1, if vCan fq fr fb tn m k = true ∧ ¬ pBC (vBr fq fr fb k m 1) ≤ (vBe fq fr fb tn m k).2 then pBC (vBr fq fr fb k m 1) else (vBe fq fr fb tn m k).2)
def vIO (O S : Nat → Nat → Int32) (r m : Nat) : Nat → (Nat → Nat → Int32) | 0 => O | k + 1 => pIfO (vIO O S r m k) S r m
theorem vWy_le {fq fr : Nat → Int32} {tn : Nat → Nat} {r m : Nat} (h : vWy fq fr tn r m ≤ 0) : vWy fq fr tn r m = 0 := by
  rcases vWy_c fq fr tn r m with h9 | h9 | h9
  · exact h9
  · rw [h9] at h; exact absurd h (by decide)
  · rw [h9] at h; exact absurd h (by decide)
theorem vWy_nle {fq fr : Nat → Int32} {tn : Nat → Nat} {r m : Nat} (h : ¬ vWy fq fr tn r m ≤ 0) : ¬ vWy fq fr tn r m = 0 := fun h9 => h (by rw [h9]; decide)
theorem uu_sub7 {a b : Nat} (h : b ≤ a + 7) : nI a - nI b + nI 7 = nI (a + 7 - b) := by
  rw [← pk_sub h, ← nI_add]
  rw [Int32.sub_eq_add_neg, Int32.sub_eq_add_neg, Int32.add_assoc, Int32.add_assoc, Int32.add_comm (nI 7)]
def dcN (xx : Int32) (tu k : Nat) : Nat := (uNt tu k + loN (iShr xx (nI 10)) 7) % 7
theorem dcN_lt (xx : Int32) (tu k : Nat) : dcN xx tu k < 7 := Nat.mod_lt _ (by decide)
def dcA (xx : Int32) (tu : Nat) (X : Nat → Nat → Int32) : Nat → TyS | 0 => (xCl X, 0, 0) | k + 1 => (xAp (dcA xx tu X k).1 (dcA xx tu X k).2.1 (lLt (dcN xx tu k)), (dcA xx tu X k).2.1 + 1, uWi (dcA xx tu X k).2.2 (dcN xx tu k))
theorem dcA_b (xx : Int32) (tu : Nat) (X : Nat → Nat → Int32) (k : Nat) : (dcA xx tu X k).2.1 = k ∧ (dcA xx tu X k).2.2 < 167772160 ∧ (dcA xx tu X k).1 0 1 = nI (dcA xx tu X k).2.1 := by
  induction k with
  | zero => exact ⟨rfl, (by decide : 0 < 167772160), rfl⟩
  | succ k ih =>
    obtain ⟨h1, h2, h3⟩ := ih
    have hk := dcN_lt xx tu k
    exact ⟨congrArg (· + 1) h1, uWi_lt h2 (by omega), rfl⟩
/-- the text and the tune that decodes has typed: anew by types, or the message's own by another key -/
def dcE (xx : Int32) (tn : Nat → Nat) (X : Nat → Nat → Int32) : TyS := if loN (iShr xx (nI 8)) 3 = 0 ∨ uMy (tn (loN (iShr xx (nI 3)) 20)) = 0 then tyE (iShr xx (nI 9)) X else dcA xx (tn (loN (iShr xx (nI 3)) 20)) X (uMy (tn (loN (iShr xx (nI 3)) 20)))
theorem dcE_1 {xx : Int32} {tn : Nat → Nat} {X : Nat → Nat → Int32} (h : loN (iShr xx (nI 8)) 3 = 0 ∨ uMy (tn (loN (iShr xx (nI 3)) 20)) = 0) : tyE (iShr xx (nI 9)) X = dcE xx tn X := (if_pos h).symm
theorem dcE_2 {xx : Int32} {tn : Nat → Nat} {X : Nat → Nat → Int32} (h : ¬ loN (iShr xx (nI 8)) 3 = 0) (h2 : ¬ uMy (tn (loN (iShr xx (nI 3)) 20)) = 0) : dcA xx (tn (loN (iShr xx (nI 3)) 20)) X (uMy (tn (loN (iShr xx (nI 3)) 20))) = dcE xx tn X := (if_neg (fun q => q.elim h h2)).symm
theorem uWi_pos (tu nt : Nat) : 0 < uWi tu nt := by
  unfold uWi
  split
  · rename_i h
    unfold uMy at h
    omega
  · split
    · decide
    · exact Nat.lt_of_lt_of_le (show 0 < (uMy tu + 1) * 2 ^ 24 from Nat.mul_pos (by omega) (by decide)) (Nat.le_add_left _ _)
theorem uW2_pos {tu a b n : Nat} (h : 0 < n) : 0 < uW2 tu a b n := by
  obtain ⟨j, rfl⟩ : ∃ j, n = j + 1 := ⟨n - 1, by omega⟩
  exact uWi_pos _ _
theorem tyE_pos (vv : Int32) (X : Nat → Nat → Int32) : 0 < (tyE vv X).2.2 := by
  unfold tyE
  rw [Nat.add_comm 1]
  show 0 < (tyI vv (loN vv 4) (tyS vv X (loN vv 4))).2.2
  rcases Nat.eq_zero_or_pos (loN (iShr (tyX vv (loN vv 4)) (nI 6)) 3) with h | h
  · rw [tyI_2 h]
    exact uW2_pos (by omega)
  · rw [tyI_1 h]
    exact uWi_pos _ _
theorem tyE_b (vv : Int32) (X : Nat → Nat → Int32) : (tyE vv X).2.1 ≤ 20 ∧ (tyE vv X).2.2 < 167772160 ∧ (tyE vv X).1 0 1 = nI (tyE vv X).2.1 := by
  have h4 := loN_lt vv (n := 4) (by decide)
  obtain ⟨h1, h2, h3⟩ := tyS_b vv X (1 + loN vv 4)
  exact ⟨by show (tyS vv X (1 + loN vv 4)).2.1 ≤ 20; omega, h2, h3⟩
theorem dcE_b {xx : Int32} {tn : Nat → Nat} {X : Nat → Nat → Int32} (h9 : tn (loN (iShr xx (nI 3)) 20) < 167772160) : (dcE xx tn X).2.1 ≤ 20 ∧ (dcE xx tn X).2.2 < 167772160 ∧ (dcE xx tn X).1 0 1 = nI (dcE xx tn X).2.1 := by
  unfold dcE
  split
  · exact tyE_b _ X
  · obtain ⟨h1, h2, h3⟩ := dcA_b xx (tn (loN (iShr xx (nI 3)) 20)) X (uMy (tn (loN (iShr xx (nI 3)) 20)))
    have hm := uMy_9 h9
    exact ⟨by rw [h1]; omega, h2, h3⟩
def vDi (tn : Nat → Nat) (tu k : Nat) : Nat := (uNt tu 0 + 7 - uNt (tn k) 0) % 7
def vDb (tn : Nat → Nat) (tu k : Nat) : Bool := decide (1 < uMy tu ∧ uMy tu < 9 ∧ uAl (tn k) tu = true)
def vDr (tn : Nat → Nat) (tu key : Nat) : Nat → Int32 × Int32 | 0 => (-1, -1) | k + 1 => (if vDb tn tu k = true ∧ vDi tn tu k = key then nI k else (vDr tn tu key k).1, if vDb tn tu k = true then nI (vDi tn tu k) else (vDr tn tu key k).2)
def dGg (Gg : Nat → Nat → Int32) (cd : Nat → Nat) (n : Nat) : Nat → Nat → Int32 := gGr (gGr (gGr (gGr Gg cd n 4 false) cd n 4 false) cd n 4 false) cd n 4 false
def dUu (U : Nat → Nat → Int32) (cd : Nat → Nat) (n : Nat) : Nat → Nat → Int32 := rTu (rTu (rTu U cd n) cd n) cd n
def dKk (K S U : Nat → Nat → Int32) (tl cd : Nat → Nat) (n : Nat) : Nat → Nat → Int32 := gTO (gTO K S tl (ntT cd n U)) S tl (ntT cd n (rTu (rTu U cd n) cd n))
def sT (tn : Nat → Nat) : Nat → Nat | 0 => 0 | k + 1 => sT tn k + (if tn k = 0 then 0 else 1)
def sM (tn : Nat → Nat) : Nat → Nat | 0 => 0 | k + 1 => if sM tn k < uMy (tn k) then uMy (tn k) else sM tn k
theorem sM_9 {tn : Nat → Nat} (h : ∀ i : Nat, i < 20 → tn i < 167772160) {k : Nat} (hk : k ≤ 20) : sM tn k ≤ 9 := by
  induction k with
  | zero => exact Nat.zero_le _
  | succ k ih =>
    have h1 := uMy_9 (h k (by omega))
    have h2 := ih (by omega)
    simp only [sM]
    split <;> omega
def sRr (fr : Nat → Int32) (w : Nat) : Nat → Int32 | 0 => nI 0 | k + 1 => sRr fr w k + fr (5 * k + w)
def sSs (fq fr : Nat → Int32) : Nat → Nat | 0 => 0 | k + 1 => sSs fq fr k + (if fr (5 * k + 1) < fq 4 then 0 else 1)
def sGg (fq fr : Nat → Int32) : Nat → Int32 | 0 => nI 0 | k + 1 => sGg fq fr k ||| (if fr (5 * k) = fq 1 then iShl (nI 1) (nI k) else nI 0)
theorem d1_self : FP.dcmp FP.dconst1 FP.dconst1 = some .eq := by decide +kernel
