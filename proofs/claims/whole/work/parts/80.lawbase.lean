/-! the law's own world and words; what holds at its loop's head (printed by wip/whole/mklc.py) -/
theorem RWx.fr {l : Launch} {y : MethodName} {wz : List Cond} {d : Nat} {G : va_G} {T : Nat → ClassId} {sz : Nat} {av : List Value} {W wc wr w1 W1 : va_W} {v : Int32} (hM : RWx l y wz d G T sz wc av v w1) (h : Fr W wc wr w1 W1) : RWx l y wz d G T sz W av v W1 := by
  unfold RWx Met at hM ⊢
  refine Jvm.Free.MetFree.mono hM (fun a s hp => ⟨hp.1, ⟨h.pre hp.2.1.1, hp.2.1.2⟩, hp.2.2⟩) (fun _ _ _ _ _ q => q) (fun a s o t hp hq => ?_)
  obtain ⟨⟨⟨r, u, h1, h2, h3⟩, hF⟩, L, h4, h5⟩ := hq
  exact ⟨⟨⟨r, u, h1, h2, h.post hp.2.1.1 hF h3⟩, h.F hF⟩, L, h4, fun q hq => h.free _ (h5 q hq)⟩
theorem lg_self (x : Int64) : lg_cmp x x = 0 := by
  unfold lg_cmp
  rw [if_neg (fun q => Int64.lt_irrefl q), if_pos rfl]
abbrev lwW (T : Nat → ClassId) (ao : Nat) (f : Nat → Int64) (a : CA) (c9 : CC) (q8 : Nat → Nat) (Z : Nat → Nat → Int32) (g : Int64) : va_W := (wO T ao f ++ oC T a c9) ++ oX8 T q8 Z g
theorem va_Ptl {G : va_G} {w w2 : va_W} {H : Heap} (h : va_P G vwCl (w ++ w2) H) : va_P G vwCl w2 H := kN.sub h (rg_b w w2)
/-- at the loop's head: class and reference belong together -/
def lwS (s : State) (G : va_G) (T : Nat → ClassId) (a : CA) (ao : Nat) (q8 : Nat → Nat) (B : Nat) (H : Heap) (locs : List Loc) : Prop := ∃ (f : Nat → Int64) (c9 : CC) (Z : Nat → Nat → Int32) (g : Int64), va_P G vwCl (lwW T ao f a c9 q8 Z g) H ∧ va_D (fun q : Nat => s.heap.size ≤ q) (lwW T ao f a c9 q8 Z g) ∧ va_S (fun q : Nat => s.heap.size ≤ q) s.heap H locs ∧ JX B c9 Z
def lwV (b : Nat) (a : CA) (ao : Nat) (q8 : Nat → Nat) (i : Nat) : List (Nat × Value) := [(0, .ref b), (1, .ref (a.1 0)), (2, .ref (q8 0)), (3, .ref ao), (4, .int (nI i))]
/-- what the law's frame has, all along -/
def lwE (l : Launch) (p : Program) (s : State) (m : MethodId) (c : Code) (b L : Nat) (xs : Nat → Int32) (G : va_G) (T : Nat → ClassId) : Prop :=
  p.tables.exec = Jvm.exec ∧ c.code = cL_law ∧ c.maxLocals = 9 ∧ s.vm.findClass RL = some m.cls ∧ (∀ w ∈ wsLw, w.before #[Value.ref b] s = true) ∧ va_X b L xs s s.heap ∧ b < s.heap.size ∧ l.stackTraces = false ∧ va_K G vwCl (tyL T) s ∧ gE (fun q : Nat => s.heap.size ≤ q) s s.heap ∧ gC s ∧ gNn s
