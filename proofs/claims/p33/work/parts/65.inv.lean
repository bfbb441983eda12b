theorem SI.set {B : Nat} {S : Nat → Nat → Int32} (hI : SI B S) {i v : Nat} (hi : i < 2) (hv : v < if i = 0 then 3 else 10) : SI B (sa S 5 (upd (S 5) i (nI v))) := by
  have h := hI
  obtain ⟨a0, a1, a2, a3, a4, a5, -⟩ := h
  refine hI.scal (Nat.le_refl _) (fun j hj => sa_ne (by omega)) ?_
  rw [sa_ne (j := 0) (by decide), sa_at]
  rcases (show i = 0 ∨ i = 1 by omega) with rfl | rfl
  · rw [if_pos rfl] at hv
    rw [upd_at, upd_no (i := 1) (by decide), nOf_n (by omega)]
    exact ⟨a0, a1, a2, a3, ⟨rfl, hv⟩, a5⟩
  · rw [if_neg (by decide)] at hv
    rw [upd_at, upd_no (i := 0) (by decide), nOf_n (by omega)]
    exact ⟨a0, a1, a2, a3, a4, ⟨rfl, hv⟩⟩
theorem SI.tell {B : Nat} {S : Nat → Nat → Int32} (hI : SI B S) {r : Nat} {v : Int32} (hv : v = nI (nOf v) ∧ nOf v < 7) : SI B (sa S 11 (upd (S 11) r v)) := by
  obtain ⟨a0, a1, a2, a3, a4, a5, g, i, j⟩ := hI
  refine ⟨a0, a1, a2, a3, a4, a5, g, fun q hq => ?_, j⟩
  obtain ⟨i1, i2⟩ := i q hq
  refine ⟨?_, i2⟩
  rw [sa_at]
  by_cases h : q = r
  · rw [h, upd_at]; exact hv
  · rw [upd_no h]; exact i1
theorem ban_all : ∀ (a : Fin 8) (f : Fin 3), nI a.val ^^^ iShl (nI 1) (nI f.val) = nI (nOf (nI a.val ^^^ iShl (nI 1) (nI f.val))) ∧ nOf (nI a.val ^^^ iShl (nI 1) (nI f.val)) < 8 := by decide +kernel
theorem SI.ban {B : Nat} {S : Nat → Nat → Int32} (hI : SI B S) {f m : Nat} (hf : f < 3) : SI B (sa S 8 (upd (S 8) m (S 8 m ^^^ iShl (nI 1) (nI f)))) := by
  obtain ⟨a0, a1, a2, a3, a4, a5, g, i, j⟩ := hI
  refine ⟨a0, a1, a2, a3, a4, a5, fun q hq => ?_, i, j⟩
  obtain ⟨g1, ⟨g2, g3⟩, g4⟩ := g q hq
  refine ⟨g1, ?_, g4⟩
  rw [sa_at]
  by_cases h : q = m
  · subst h
    rw [upd_at]
    have h1 := ban_all ⟨nOf (S 8 q), g3⟩ ⟨f, hf⟩
    simp only [← g2] at h1
    exact h1
  · rw [upd_no h]; exact ⟨g2, g3⟩
theorem SI.mono {B B' : Nat} {S : Nat → Nat → Int32} (hI : SI B S) (h : B ≤ B') : SI B' S := by
  have h9 := hI
  obtain ⟨a0, a1, a2, a3, a4, a5, -⟩ := h9
  exact hI.scal h (fun _ _ => rfl) ⟨⟨a0.1, Nat.le_trans a0.2 h⟩, a1, a2, a3, a4, a5⟩
theorem SI.bell {B : Nat} {S : Nat → Nat → Int32} (hI : SI B S) (hB : B + 1 < 2 ^ 31) : SI (B + 1) (sa (sc (sc S 0 (S 0 0 + nI 1)) 3 (nI 0)) 12 (pBM (S 0 0 + nI 1) (S 12))) := by
  obtain ⟨a0, a1, a2, a3, a4, a5, g, i, j⟩ := hI.mono (Nat.le_succ B)
  obtain ⟨⟨b0, b1⟩, -⟩ := hI
  have h : S 0 0 + nI 1 = nI (nOf (S 0 0) + 1) := by rw [b0, nI_add, ← b0]
  refine ⟨?_, a1, a2, ?_, a4, a5, g, i, j⟩
  · rw [sa_ne (j := 0) (by decide), sc_k (i := 0) (by decide), sc_at, h, nOf_n (by omega)]
    exact ⟨rfl, by omega⟩
  · rw [sa_ne (j := 0) (by decide), sc_at, nOf_n (by decide)]
    exact ⟨rfl, by decide⟩
theorem HR.mono {B B' o n : Nat} {Hs : Nat → Nat → Nat → Int32} {F : Nat → Int32} (hH : HR B o n Hs F) (h : B ≤ B') : HR B' o n Hs F := fun k hk => ⟨(hH k hk).1.mono h, (hH k hk).2⟩

