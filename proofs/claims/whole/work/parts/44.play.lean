/-! WhistleTunes.play (printed by wip/whole/s44.py) -/
abbrev PL : Type := ((Nat → Nat → Int32) × (Nat → Nat → Int32) × (Nat → Nat → Int32) × (Nat → Nat → Int32)) × Int32 × Int32 × Nat
abbrev tlF (S : Nat → Nat → Int32) : Nat → Nat := fun i => nOf (S 6 i)
/-- the part that ends at k -/
abbrev plP (cd : Nat → Nat) (n k : Nat) (s : PL) : Int32 × (Nat → Nat → Int32) × (Nat → Nat → Int32) × (Nat → Nat → Int32) × (Nat → Nat → Int32) := pPP s.1.1 (tlF s.1.1) s.1.2.1 s.1.2.2.1 s.1.2.2.2 cd n s.2.2.2 k
def plS (cd : Nat → Nat) (n k : Nat) (s : PL) : PL := if s.2.1 = 0 then (if k = n ∨ pAt cd n k = 44 then (((plP cd n k s).2.1, (plP cd n k s).2.2.1, (plP cd n k s).2.2.2.1, (plP cd n k s).2.2.2.2), (plP cd n k s).1, (if (plP cd n k s).1 = 0 then s.2.2.1 + nI 1 else s.2.2.1 + nI 0), k + 1) else s) else s
/-- an evening as far as place k: ((school, outcome, tune, tree), what stopped it, parts, where the next begins) -/
def pl (cd : Nat → Nat) (n : Nat) (s0 : PL) : Nat → PL | 0 => s0 | k + 1 => plS cd n k (pl cd n s0 k)
section PLS
variable (cd : Nat → Nat) (n : Nat) (s0 : PL) (k : Nat)
theorem pl_stop (h : ¬ (pl cd n s0 k).2.1 = 0) : pl cd n s0 (k + 1) = pl cd n s0 k := if_neg h
theorem pl_skip (h : (pl cd n s0 k).2.1 = 0) (h2 : ¬ k = n) (h3 : ¬ pAt cd n k = 44) : pl cd n s0 (k + 1) = pl cd n s0 k := (if_pos h).trans (if_neg (fun q => q.elim h2 h3))
theorem pl_part0 (h : (pl cd n s0 k).2.1 = 0) (h2 : k = n ∨ pAt cd n k = 44) (h3 : (plP cd n k (pl cd n s0 k)).1 = 0) : pl cd n s0 (k + 1) = (((plP cd n k (pl cd n s0 k)).2.1, (plP cd n k (pl cd n s0 k)).2.2.1, (plP cd n k (pl cd n s0 k)).2.2.2.1, (plP cd n k (pl cd n s0 k)).2.2.2.2), (plP cd n k (pl cd n s0 k)).1, (pl cd n s0 k).2.2.1 + nI 1, k + 1) := by
  refine (if_pos h).trans ((if_pos h2).trans ?_)
  rw [if_pos h3]
theorem pl_part1 (h : (pl cd n s0 k).2.1 = 0) (h2 : k = n ∨ pAt cd n k = 44) (h3 : ¬ (plP cd n k (pl cd n s0 k)).1 = 0) : pl cd n s0 (k + 1) = (((plP cd n k (pl cd n s0 k)).2.1, (plP cd n k (pl cd n s0 k)).2.2.1, (plP cd n k (pl cd n s0 k)).2.2.2.1, (plP cd n k (pl cd n s0 k)).2.2.2.2), (plP cd n k (pl cd n s0 k)).1, (pl cd n s0 k).2.2.1 + nI 0, k + 1) := by
  refine (if_pos h).trans ((if_pos h2).trans ?_)
  rw [if_neg h3]
theorem pl_stay (h : ¬ (pl cd n s0 k).2.1 = 0) (j : Nat) : pl cd n s0 (k + j) = pl cd n s0 k := by
  induction j with
  | zero => rfl
  | succ j ih => exact (pl_stop cd n s0 (k + j) (by rw [ih]; exact h)).trans ih
end PLS
/-- the school behind an evening -/
def plE (s : PL) : Nat → Nat → Int32 := sa s.1.1 16 (upd (upd (s.1.1 16) 0 (if s.2.1 = 0 then -1 else s.2.2.1)) 1 (if s.2.1 = 0 then -1 else s.2.1))
theorem plE_0 {s : PL} (h : s.2.1 = 0) : plE s = sa s.1.1 16 (upd (upd (s.1.1 16) 0 (-1)) 1 (-1)) := by unfold plE; rw [if_pos h, if_pos h]
theorem plE_1 {s : PL} (h : ¬ s.2.1 = 0) : plE s = sa s.1.1 16 (upd (upd (s.1.1 16) 0 s.2.2.1) 1 s.2.1) := by unfold plE; rw [if_neg h, if_neg h]

