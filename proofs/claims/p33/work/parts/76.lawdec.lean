/-! a typed tune beside the school: decoding, teaching -/
def Zt (st : Nat → Int32) (nt : Nat) (t : Nat → Int32) : Nat → Nat → Int32 := fun j => if j = 2 then st else if j = 13 then t else fun _ => nI nt
theorem vDr_one {tn : Nat → Nat} {tu key o : Nat} (ho : vDb tn tu o = true) (hu : ∀ k : Nat, k < 20 → vDb tn tu k = true → k = o) {k : Nat} (hk : k ≤ 20) : vDr tn tu key k = if o < k then (if vDi tn tu o = key then nI o else -1, nI (vDi tn tu o)) else (-1, -1) := by
  induction k with
  | zero => rfl
  | succ k ih =>
    have h1 := ih (by omega)
    simp only [vDr]
    by_cases h2 : k = o
    · rw [h2] at h1 ⊢
      rw [if_neg (Nat.lt_irrefl o)] at h1
      rw [if_pos ho, if_pos (Nat.lt_succ_self o), h1]
      by_cases h3 : vDi tn tu o = key
      · rw [if_pos ⟨ho, h3⟩, if_pos h3]
      · rw [if_neg (fun q => h3 q.2), if_neg h3]
    · have h4 : ¬ vDb tn tu k = true := fun q => h2 (hu k (by omega) q)
      rw [if_neg h4, if_neg (fun q => h4 q.1), h1]
      by_cases h5 : o < k
      · rw [if_pos h5, if_pos (show o < k + 1 by omega)]
      · rw [if_neg h5, if_neg (show ¬ o < k + 1 by omega)]
theorem vDr_no {tn : Nat → Nat} {tu key : Nat} (hu : ∀ k : Nat, k < 20 → ¬ vDb tn tu k = true) {k : Nat} (hk : k ≤ 20) : vDr tn tu key k = (-1, -1) := by
  induction k with
  | zero => rfl
  | succ k ih =>
    have h4 := hu k (by omega)
    simp only [vDr]
    rw [if_neg h4, if_neg (fun q => h4 q.1), ih (by omega)]
section JMD
variable {B : Nat} {S : Nat → Nat → Int32} {fq ft fr fb : Nat → Int32} {tn : Nat → Nat} {z : TyS}
abbrev zU (z : TyS) (U : Nat → Nat → Int32) : Nat → Nat → Int32 := rTu U (cdX z.1) z.2.1
abbrev zN (z : TyS) : Nat := uMy z.2.2
theorem jTT (st : Nat → Int32) (hz : TyG z) (h0 : 0 < z.2.1) (h9 : z.2.2 < 167772160) (U : Nat → Nat → Int32) : TT (Zt st (zN z) (zU z U 1)) (zU z U) (zN z) :=
  ⟨rfl, uMy_9 h9, fun _ _ _ => rfl, ((hz.out h0).2.2.2.2 U).2.1⟩
theorem jdig (hz : TyG z) (h0 : 0 < z.2.1) (U : Nat → Nat → Int32) (h8 : zN z ≤ 8) {i : Nat} (hi : i < zN z) : nSh (zU z U 1) i = dgT z.2.2 i := by
  have h1 := (((hz.out h0).2.2.2.2 U).2.2 h8).2
  obtain ⟨a1, a2⟩ := h1 i hi
  obtain ⟨b1, b2⟩ := h1 0 (show 0 < zN z by omega)
  unfold nSh
  show nFM (zU z U 1 i - zU z U 1 0) = _
  rw [show zU z U 1 i = nI (uNt z.2.2 i) from a1, show zU z U 1 0 = nI (uNt z.2.2 0) from b1, (d7 (nI_v a2) (nI_v b2)).1, nOf_n (by omega), nOf_n (by omega)]
  rfl
theorem jsame (h : JM B S fq ft fr fb tn) (hz : TyG z) (h0 : 0 < z.2.1) (h9 : z.2.2 < 167772160) (U : Nat → Nat → Int32) (h8 : zN z ≤ 8) {k : Nat} (hk : k < 20) : mHS (Zt (stM fq ft fr fb tn) (zN z) (zU z U 1)) k (zN z) = true ↔ uAl (tn k) z.2.2 = true := by
  have hR : RS S (Zt (stM fq ft fr fb tn) (zN z) (zU z U 1) 2) := h.2.1
  rw [HS_iff hR h.1 (jTT _ hz h0 h9 U) h8 hk, (jm_tl h hk).1]
  unfold uAl
  rw [decide_eq_true_eq]
  constructor
  · rintro ⟨a, b⟩
    refine ⟨a, (uSh_dg _ _ _).mpr (fun i hi => ?_)⟩
    have hi2 : i < zN z := by rw [← a]; exact hi
    rw [← tS_dg h hk hi, ← b i hi2, jdig hz h0 U h8 hi2]
  · rintro ⟨a, b⟩
    refine ⟨a, fun i hi => ?_⟩
    have hi2 : i < uMy (tn k) := by rw [a]; exact hi
    rw [jdig hz h0 U h8 hi, tS_dg h hk hi2]
    exact ((uSh_dg _ _ _).mp b i hi2).symm
theorem jdec (h : JM B S fq ft fr fb tn) (hz : TyG z) (h0 : 0 < z.2.1) (h9 : z.2.2 < 167772160) (U : Nat → Nat → Int32) {key : Nat} (hy : key < 7) :
    pDT S (tlF S) (zU z U) (ntT (cdX z.1) z.2.1 U) (nI key) = (vDr tn z.2.2 key 20).1 ∧ pDM S (tlF S) (zU z U) (ntT (cdX z.1) z.2.1 U) (nI key) = (vDr tn z.2.2 key 20).1 ∧ pKO S (tlF S) (zU z U) (ntT (cdX z.1) z.2.1 U) = (vDr tn z.2.2 key 20).2 := by
  have hR : RS S (Zt (stM fq ft fr fb tn) (zN z) (zU z U 1) 2) := h.2.1
  have hT := jTT (stM fq ft fr fb tn) hz h0 h9 U
  rw [((hz.out h0).2.2.2.2 U).1]
  show pDT S (tlF S) (zU z U) (zN z) (nI key) = _ ∧ pDM S (tlF S) (zU z U) (zN z) (nI key) = _ ∧ pKO S (tlF S) (zU z U) (zN z) = _
  rw [pDT_eq hR h.1 hT hy, pDM_eq hR h.1 hT hy]
  by_cases h28 : 2 ≤ zN z ∧ zN z ≤ 8
  · have hs := fun k (hk : k < 20) => jsame h hz h0 h9 U h28.2 hk
    have hb : ∀ k : Nat, k < 20 → (vDb tn z.2.2 k = true ↔ mHS (Zt (stM fq ft fr fb tn) (zN z) (zU z U 1)) k (zN z) = true) := by
      intro k hk
      rw [hs k hk]
      unfold vDb
      rw [decide_eq_true_eq]
      exact ⟨fun q => q.2.2, fun q => ⟨by have := h28.1; show 1 < zN z; omega, by have := h28.2; show zN z < 9; omega, q⟩⟩
    rcases shp_cases hR h.1 hT h28.1 h28.2 with ⟨o, o1, o2, o3, o4, o5, -⟩ | ⟨n1, n2⟩
    · have f5 := fst_v hR h.1 hT h28.1 o1 o5
      have hd := mDe_1 hR h.1 hT h28.1 h28.2 o1 o5 o2 o3 hy
      have e1 := vDr_one (key := key) ((hb o o1).mpr o2) (fun k hk q => o3 k hk ((hb k hk).mp q)) (Nat.le_refl 20)
      have hl : 0 < uMy (tn o) := by
        have h5 : tlF S o = zN z := o5
        rw [(jm_tl h o1).1] at h5
        omega
      have hv : (nOf (Zt (stM fq ft fr fb tn) (zN z) (zU z U 1) 13 0) + 7 - nOf (S 7 (o * 8))) % 7 = vDi tn z.2.2 o := by
        have g1 := (((hz.out h0).2.2.2.2 U).2.2 h28.2).2 0 (by show 0 < zN z; omega)
        have g2 := jm_n h o1 hl
        have g3 : S 7 (o * 8) = nI (uNt (tn o) 0) := g2.1
        show (nOf (zU z U 1 0) + 7 - nOf (S 7 (o * 8))) % 7 = _
        rw [show zU z U 1 0 = nI (uNt z.2.2 0) from g1.1, g3, nOf_n (by omega), nOf_n (by omega)]
        rfl
      rw [hv] at hd
      rw [if_pos o1] at e1
      rw [hd, e1]
      refine ⟨rfl, rfl, ?_⟩
      have hp : pMS S (tlF S) (zU z U) (zN z) = nI o := (pMSy h28).trans o4
      have f6 := f5.2.2.2.2
      rw [hv] at f6
      unfold pKO
      rw [hp, if_neg (nm_or o1), nOf_n (by omega), f6]
    · have e1 := vDr_no (tn := tn) (tu := z.2.2) (key := key) (fun k hk q => by have := (hb k hk).mp q; rw [n1 k hk] at this; exact absurd this (by decide)) (Nat.le_refl 20)
      have e : pKO S (tlF S) (zU z U) (zN z) = -1 := if_pos ((pMSy h28).trans n2)
      rw [mDe_2 hT (Or.inr n1), e1, e]
      exact ⟨rfl, rfl, rfl⟩
  · have e1 := vDr_no (tn := tn) (tu := z.2.2) (key := key) (fun k hk q => by
      unfold vDb at q
      rw [decide_eq_true_eq] at q
      exact h28 ⟨by have := q.1; show 2 ≤ uMy z.2.2; omega, by have := q.2.1; show uMy z.2.2 ≤ 8; omega⟩) (Nat.le_refl 20)
    have e : pKO S (tlF S) (zU z U) (zN z) = -1 := if_pos (pMSn h28)
    rw [mDe_2 hT (Or.inl h28), e1, e]
    exact ⟨rfl, rfl, rfl⟩
theorem vIl_iff (tn : Nat → Nat) (a tu k : Nat) : vIl tn a tu k = true ↔ vIs tu = true ∧ ∀ m : Nat, m < k → m = a ∨ ¬ uAl (tn m) tu = true := by
  induction k with
  | zero => exact ⟨fun q => ⟨q, fun m hm => absurd hm (Nat.not_lt_zero m)⟩, fun q => q.1⟩
  | succ k ih =>
    show (vIl tn a tu k && vId tn a tu k) = true ↔ _
    rw [Bool.and_eq_true, ih]
    unfold vId
    rw [decide_eq_true_eq]
    constructor
    · rintro ⟨⟨b, c⟩, d⟩
      exact ⟨b, all_s c d⟩
    · rintro ⟨b, c⟩
      exact ⟨⟨b, fun m hm => c m (by omega)⟩, c k (by omega)⟩
/-- whether it is taught -/
theorem jteach (h : JM B S fq ft fr fb tn) (hz : TyG z) (h0 : 0 < z.2.1) (h9 : z.2.2 < 167772160) (U : Nat → Nat → Int32) {a : Nat} (ha : a < 20) :
    (vIl tn a z.2.2 20 = true ↔ pRA S (tlF S) (zU z U) (ntT (cdX z.1) z.2.1 U) a = nI 0) ∧ (vIl tn a z.2.2 20 = true → mWT (Zt (stM fq ft fr fb tn) (zN z) (zU z U 1)) a (zN z) = 0) := by
  have hR : RS S (Zt (stM fq ft fr fb tn) (zN z) (zU z U 1) 2) := h.2.1
  have hT := jTT (stM fq ft fr fb tn) hz h0 h9 U
  rw [((hz.out h0).2.2.2.2 U).1]
  show (vIl tn a z.2.2 20 = true ↔ pRA S (tlF S) (zU z U) (zN z) a = nI 0) ∧ _
  rw [pRA_eq hR h.1 hT ha]
  have key : vIl tn a z.2.2 20 = true ↔ mWT (Zt (stM fq ft fr fb tn) (zN z) (zU z U 1)) a (zN z) = nI 0 := by
    rw [vIl_iff]
    unfold mWT
    rw [hT.tu]
    have hvs : vIs z.2.2 = true ↔ 2 ≤ zN z ∧ zN z ≤ 8 := by
      unfold vIs
      rw [decide_eq_true_eq]
      show 1 < zN z ∧ zN z < 9 ↔ _
      omega
    rw [hvs]
    by_cases h28 : 2 ≤ zN z ∧ zN z ≤ 8
    · rw [decide_eq_true h28, if_pos rfl]
      rcases Bool.eq_false_or_eq_true (mWc (Zt (stM fq ft fr fb tn) (zN z) (zU z U 1)) a (zN z) 20) with c | c
      · rw [c, if_pos rfl]
        obtain ⟨o, o1, o2, o3⟩ := (mWc_iff _ _ _ _).mp c
        constructor
        · rintro ⟨-, q⟩
          rcases q o o1 with q | q
          · exact absurd q o2
          · exact absurd ((jsame h hz h0 h9 U h28.2 o1).mp o3) q
        · intro q
          exact absurd q (by decide)
      · rw [c, if_neg (by decide)]
        refine ⟨fun _ => rfl, fun _ => ⟨h28, fun m hm => ?_⟩⟩
        by_cases hma : m = a
        · exact Or.inl hma
        · refine Or.inr (fun q => ?_)
          have h5 := (mWc_iff (Zt (stM fq ft fr fb tn) (zN z) (zU z U 1)) a (zN z) 20).mpr ⟨m, hm, hma, (jsame h hz h0 h9 U h28.2 hm).mpr q⟩
          rw [c] at h5
          exact absurd h5 (by decide)
    · rw [decide_eq_false h28, if_neg (by decide)]
      exact ⟨fun q => absurd q.1 h28, fun q => absurd q (by decide)⟩
  exact ⟨key, fun q => key.mp q⟩
end JMD
