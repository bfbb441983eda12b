def wk (ch sh : Nat → Nat) : Nat → Option Nat | 0 => some 0 | k + 1 => match wk ch sh k with | none => none | some x => if ch (x * 7 + sh k) = 0 then none else some (ch (x * 7 + sh k))
section WK
variable {ch ch' sh sh' : Nat → Nat} {k j x y nd e : Nat}
theorem wk_n (h : wk ch sh k = none) : wk ch sh (k + 1) = none := by simp only [wk, h]
theorem wk_s1 (h : wk ch sh k = some x) (h2 : ch (x * 7 + sh k) = 0) : wk ch sh (k + 1) = none := by
  simp only [wk, h]; exact if_pos h2
theorem wk_s2 (h : wk ch sh k = some x) (h2 : ¬ ch (x * 7 + sh k) = 0) : wk ch sh (k + 1) = some (ch (x * 7 + sh k)) := by
  simp only [wk, h]; exact if_neg h2
theorem wk_inv (h : wk ch sh (k + 1) = some y) : ∃ x : Nat, wk ch sh k = some x ∧ ch (x * 7 + sh k) = y ∧ ¬ y = 0 := by
  cases hk : wk ch sh k with
  | none => rw [wk_n hk] at h; cases h
  | some x =>
    by_cases q : ch (x * 7 + sh k) = 0
    · rw [wk_s1 hk q] at h; cases h
    · rw [wk_s2 hk q] at h
      have h1 : ch (x * 7 + sh k) = y := Option.some.inj h
      exact ⟨x, rfl, h1, by rw [← h1]; exact q⟩
theorem wk_none (h : wk ch sh k = none) (j : Nat) : wk ch sh (k + j) = none := by
  induction j with
  | zero => exact h
  | succ j ih => exact wk_n ih
theorem wk_pre (h : wk ch sh k = some y) (hj : j ≤ k) : ∃ z : Nat, wk ch sh j = some z := by
  cases hz : wk ch sh j with
  | none =>
    have h1 := wk_none hz (k - j)
    rw [show j + (k - j) = k by omega, h] at h1
    cases h1
  | some z => exact ⟨z, rfl⟩
theorem wk_congr (h : ∀ i : Nat, i < k → sh i = sh' i) : wk ch sh k = wk ch sh' k := by
  induction k with
  | zero => rfl
  | succ k ih =>
    have h1 := ih (fun i hi => h i (by omega))
    simp only [wk]
    rw [h1, h k (by omega)]
theorem wk_mono (hm : ∀ e : Nat, ¬ ch e = 0 → ch' e = ch e) : ∀ (k y : Nat), wk ch sh k = some y → wk ch' sh k = some y := by
  intro k
  induction k with
  | zero => intro y h; exact h
  | succ k ih =>
    intro y h
    obtain ⟨x, h1, h2, h3⟩ := wk_inv h
    have h4 := hm (x * 7 + sh k) (by rw [h2]; exact h3)
    rw [wk_s2 (ih x h1) (by rw [h4, h2]; exact h3), h4, h2]
/-- a tree: no two edges to one node, nodes up to nd, edges from these alone -/
def tOkk (ch : Nat → Nat) (nd : Nat) : Prop := (∀ e e' : Nat, ¬ ch e = 0 → ch e = ch e' → e = e') ∧ (∀ e : Nat, ch e ≤ nd) ∧ ∀ e : Nat, ¬ ch e = 0 → e / 7 ≤ nd
def dg (sh : Nat → Nat) : Prop := ∀ i : Nat, sh i < 7
theorem wk_nd (h : tOkk ch nd) : ∀ (k x : Nat), wk ch sh k = some x → x ≤ nd := by
  intro k
  cases k with
  | zero =>
    intro x hx
    have : 0 = x := Option.some.inj hx
    omega
  | succ k =>
    intro x hx
    obtain ⟨z, h1, h2, h3⟩ := wk_inv hx
    rw [← h2]; exact h.2.1 _
theorem wk_inj (h : tOkk ch nd) (hd : dg sh) (hd' : dg sh') : ∀ (k k' x : Nat), wk ch sh k = some x → wk ch sh' k' = some x → k = k' ∧ ∀ i : Nat, i < k → sh i = sh' i := by
  intro k
  induction k with
  | zero =>
    intro k' x h1 h2
    have h0 : 0 = x := Option.some.inj h1
    cases k' with
    | zero => exact ⟨rfl, fun i hi => absurd hi (Nat.not_lt_zero i)⟩
    | succ k' =>
      obtain ⟨z, -, -, h3⟩ := wk_inv h2
      exact absurd h0.symm h3
  | succ k ih =>
    intro k' x h1 h2
    obtain ⟨z, a1, a2, a3⟩ := wk_inv h1
    cases k' with
    | zero =>
      have h0 : 0 = x := Option.some.inj h2
      exact absurd h0.symm a3
    | succ k' =>
      obtain ⟨z', b1, b2, b3⟩ := wk_inv h2
      have he := h.1 (z * 7 + sh k) (z' * 7 + sh' k') (by rw [a2]; exact a3) (by rw [a2, b2])
      have hs := hd k
      have hs' := hd' k'
      have hz : z = z' := by omega
      rw [← hz] at b1
      obtain ⟨i1, i2⟩ := ih k' z a1 b1
      refine ⟨by omega, fun i hi => ?_⟩
      rcases Nat.lt_or_ge i k with q | q
      · exact i2 i q
      · rw [show i = k by omega]
        have e : sh k = sh' k' := by omega
        rw [e, i1]
theorem nUp_at (f : Nat → Nat) (e v : Nat) : nUp f e v e = v := if_pos rfl
theorem nUp_no {f : Nat → Nat} {e v j : Nat} (h : ¬ j = e) : nUp f e v j = f j := if_neg h
theorem tOkk_new (h : tOkk ch nd) (he : e / 7 ≤ nd) : tOkk (nUp ch e (nd + 1)) (nd + 1) := by
  obtain ⟨h1, h2, h3⟩ := h
  refine ⟨fun a b ha hab => ?_, fun a => ?_, fun a ha => ?_⟩
  · by_cases qa : a = e
    · rw [qa, nUp_at] at hab
      by_cases qb : b = e
      · rw [qa, qb]
      · rw [nUp_no qb] at hab
        have := h2 b
        omega
    · rw [nUp_no qa] at hab ha
      by_cases qb : b = e
      · rw [qb, nUp_at] at hab
        have := h2 a
        omega
      · rw [nUp_no qb] at hab
        exact h1 a b ha hab
  · by_cases qa : a = e
    · rw [qa, nUp_at]; exact Nat.le_refl _
    · rw [nUp_no qa]; exact Nat.le_succ_of_le (h2 a)
  · by_cases qa : a = e
    · rw [qa]; omega
    · rw [nUp_no qa] at ha; exact Nat.le_succ_of_le (h3 a ha)
/-- a new edge at the end of a walk -/
theorem wk_new (h : tOkk ch nd) (hd : dg sh) (hd' : dg sh') (hw : wk ch sh j = some x) (h0 : ch (x * 7 + sh j) = 0) : ∀ (k y : Nat), wk (nUp ch (x * 7 + sh j) (nd + 1)) sh' k = some y → wk ch sh' k = some y ∨ (k = j + 1 ∧ (∀ i : Nat, i < k → sh' i = sh i) ∧ y = nd + 1) := by
  intro k
  induction k with
  | zero => intro y hy; exact Or.inl hy
  | succ k ih =>
    intro y hy
    obtain ⟨z, a1, a2, a3⟩ := wk_inv hy
    have hx := wk_nd h _ _ hw
    have hsj := hd j
    have hsk := hd' k
    rcases ih z a1 with i1 | ⟨i1, i2, i3⟩
    · by_cases he : z * 7 + sh' k = x * 7 + sh j
      · have hz : z = x := by omega
        rw [hz] at i1
        obtain ⟨b1, b2⟩ := wk_inj h hd' hd k j x i1 hw
        rw [he, nUp_at] at a2
        refine Or.inr ⟨by omega, fun i hi => ?_, a2.symm⟩
        rcases Nat.lt_or_ge i k with q | q
        · exact b2 i q
        · rw [show i = k by omega]
          have e : sh' k = sh j := by omega
          rw [e, b1]
      · rw [nUp_no he] at a2
        left
        rw [wk_s2 i1 (by rw [a2]; exact a3), a2]
    · exfalso
      rw [i3, nUp_no (by omega)] at a2
      have := h.2.2 ((nd + 1) * 7 + sh' k) (by rw [a2]; exact a3)
      omega
/-- how many beginnings are new -/
def cN (ch sh : Nat → Nat) : Nat → Nat | 0 => 0 | k + 1 => cN ch sh k + (if (wk ch sh (k + 1)).isNone = true then 1 else 0)
end WK
theorem tS_lt (S : Nat → Nat → Int32) (m : Nat) : dg (tS S m) := fun i => (fm7 _).2
/-- a message's shape put into the tree -/
theorem tAd_wk {S : Nat → Nat → Int32} {m : Nat} {ch : Nat → Nat} {nd : Nat} (h : tOkk ch nd) (h9 : nd + 8 ≤ 160) : ∀ j : Nat, j ≤ 8 →
    tOkk (tAd S m ch nd j).1 (tAd S m ch nd j).2.1 ∧ wk (tAd S m ch nd j).1 (tS S m) j = some (tAd S m ch nd j).2.2 ∧ (∀ e : Nat, ¬ ch e = 0 → (tAd S m ch nd j).1 e = ch e) ∧
    (∀ (sh : Nat → Nat) (k y : Nat), dg sh → wk (tAd S m ch nd j).1 sh k = some y → wk ch sh k = some y ∨ (k ≤ j ∧ (∀ i : Nat, i < k → sh i = tS S m i) ∧ nd < y)) ∧
    (tAd S m ch nd j).2.1 = nd + cN ch (tS S m) j ∧ nd ≤ (tAd S m ch nd j).2.1 ∧ (tAd S m ch nd j).2.1 ≤ nd + j := by
  intro j
  induction j with
  | zero => intro _; exact ⟨h, rfl, fun e _ => rfl, fun sh k y _ q => Or.inl q, rfl, Nat.le_refl _, Nat.le_refl _⟩
  | succ j ih =>
    intro hj
    obtain ⟨a1, a2, a3, a4, a5, a6, a7⟩ := ih (by omega)
    have hd := tS_lt S m
    have hdj := hd j
    have hx := wk_nd a1 _ _ a2
    simp only [tAd]
    generalize tAd S m ch nd j = r at a1 a2 a3 a4 a5 a6 a7 hx ⊢
    by_cases h0 : r.1 (r.2.2 * 7 + tS S m j) = 0
    · have e1 : cfC r.1 r.2.1 (r.2.2 * 7 + tS S m j) = nUp r.1 (r.2.2 * 7 + tS S m j) (r.2.1 + 1) := cfC_1 ⟨h0, by omega⟩
      have e2 : cfN r.1 r.2.1 (r.2.2 * 7 + tS S m j) = r.2.1 + 1 := cfN_1 ⟨h0, by omega⟩
      rw [e1, e2]
      have hmono : ∀ e : Nat, ¬ r.1 e = 0 → nUp r.1 (r.2.2 * 7 + tS S m j) (r.2.1 + 1) e = r.1 e := fun e he => nUp_no (fun q => he (by rw [q]; exact h0))
      have hn : wk ch (tS S m) (j + 1) = none := by
        cases hq : wk ch (tS S m) (j + 1) with
        | none => rfl
        | some y =>
          have h1 := wk_mono a3 _ _ hq
          rw [wk_s1 a2 h0] at h1
          cases h1
      refine ⟨tOkk_new a1 (by omega), ?_, fun e he => ?_, fun sh k y hsh hy => ?_, ?_, by omega, by omega⟩
      · have h1 := wk_mono hmono _ _ a2
        rw [wk_s2 h1 (by rw [nUp_at]; omega)]
      · have h1 := a3 e he
        rw [hmono e (by rw [h1]; exact he), h1]
      · rcases wk_new a1 hd hsh a2 h0 k y hy with q | ⟨q1, q2, q3⟩
        · rcases a4 sh k y hsh q with z | ⟨z1, z2, z3⟩
          · exact Or.inl z
          · exact Or.inr ⟨by omega, z2, z3⟩
        · exact Or.inr ⟨by omega, q2, by omega⟩
      · simp only [cN]
        rw [hn, a5]
        show nd + cN ch (tS S m) j + 1 = nd + (cN ch (tS S m) j + 1)
        omega
    · have e1 : cfC r.1 r.2.1 (r.2.2 * 7 + tS S m j) = r.1 := cfC_2 (fun q => h0 q.1)
      have e2 : cfN r.1 r.2.1 (r.2.2 * 7 + tS S m j) = r.2.1 := cfN_2 (fun q => h0 q.1)
      rw [e1, e2]
      have hw := wk_s2 a2 h0
      refine ⟨a1, hw, a3, fun sh k y hsh hy => ?_, ?_, a6, by omega⟩
      · rcases a4 sh k y hsh hy with z | ⟨z1, z2, z3⟩
        · exact Or.inl z
        · exact Or.inr ⟨by omega, z2, z3⟩
      · simp only [cN]
        rcases a4 (tS S m) (j + 1) _ hd hw with z | ⟨z1, -, -⟩
        · rw [z, a5]
          rfl
        · omega
/-- what the tree knows behind m messages -/
def tKn (S : Nat → Nat → Int32) (tl : Nat → Nat) (m : Nat) (ch : Nat → Nat) (ms : Nat → Int32) (nd : Nat) : Prop :=
  (tOkk ch nd ∧ nd ≤ 8 * m) ∧
  (∀ (sh : Nat → Nat) (k y : Nat), dg sh → wk ch sh k = some y → k = 0 ∨ ∃ o : Nat, o < m ∧ k ≤ tl o ∧ ∀ i : Nat, i < k → sh i = tS S o i) ∧
  (∀ o : Nat, o < m → 0 < tl o → ∃ y : Nat, wk ch (tS S o) (tl o) = some y) ∧
  (∀ x : Nat, nd < x → ms x = -1) ∧
  ∀ (sh : Nat → Nat) (k y : Nat), dg sh → 0 < k → wk ch sh k = some y → (∃ o : Nat, o < m ∧ tl o = k ∧ (∀ i : Nat, i < k → sh i = tS S o i) ∧ ms y = nI o) ∨ ((∀ o : Nat, o < m → tl o = k → ∃ i : Nat, i < k ∧ ¬ sh i = tS S o i) ∧ ms y = -1)
/-- a beginning of message m's shape that no message ahead of it has -/
def nwB (S : Nat → Nat → Int32) (tl : Nat → Nat) (m n : Nat) : Prop := ∀ o : Nat, o < m → n ≤ tl o → ∃ i : Nat, i < n ∧ ¬ tS S m i = tS S o i
theorem ex_diff (f g : Nat → Nat) (k : Nat) : (∀ i : Nat, i < k → f i = g i) ∨ ∃ i : Nat, i < k ∧ ¬ f i = g i := by
  induction k with
  | zero => exact Or.inl (fun i hi => absurd hi (Nat.not_lt_zero i))
  | succ k ih =>
    rcases ih with h | ⟨i, h1, h2⟩
    · by_cases q : f k = g k
      · refine Or.inl (fun i hi => ?_)
        rcases Nat.lt_or_ge i k with z | z
        · exact h i z
        · rw [show i = k by omega]; exact q
      · exact Or.inr ⟨k, by omega, q⟩
    · exact Or.inr ⟨i, by omega, h2⟩
theorem tKn_nw {S : Nat → Nat → Int32} {tl : Nat → Nat} {m : Nat} {ch : Nat → Nat} {ms : Nat → Int32} {nd n : Nat} (h : tKn S tl m ch ms nd) (hn : 0 < n) : (wk ch (tS S m) n).isNone = true ↔ nwB S tl m n := by
  obtain ⟨-, h2, h3, -⟩ := h
  constructor
  · intro q o ho hl
    rcases ex_diff (tS S m) (tS S o) n with z | z
    · exfalso
      obtain ⟨y, hy⟩ := h3 o ho (by omega)
      obtain ⟨x, hx⟩ := wk_pre hy hl
      rw [wk_congr z, hx] at q
      cases q
    · exact z
  · intro q
    cases hw : wk ch (tS S m) n with
    | none => rfl
    | some y =>
      exfalso
      rcases h2 (tS S m) n y (tS_lt S m) hw with z | ⟨o, o1, o2, o3⟩
      · omega
      · obtain ⟨i, i1, i2⟩ := q o o1 o2
        exact i2 (o3 i i1)
theorem tG_kn (S : Nat → Nat → Int32) (tl : Nat → Nat) (h8 : ∀ i : Nat, i < 20 → tl i ≤ 8) : ∀ m : Nat, m ≤ 20 → tKn S tl m (tG S tl m).1 (tG S tl m).2.1 (tG S tl m).2.2 := by
  intro m
  induction m with
  | zero =>
    intro _
    refine ⟨⟨⟨fun e e' h => absurd rfl h, fun e => Nat.le_refl _, fun e h => absurd rfl h⟩, Nat.le_refl _⟩, fun sh k y hd hw => ?_, fun o ho => absurd ho (Nat.not_lt_zero o), fun x _ => rfl, fun sh k y hd hk hw => ?_⟩
    · cases k with
      | zero => exact Or.inl rfl
      | succ k =>
        obtain ⟨x, -, h2, h3⟩ := wk_inv hw
        exact absurd h2.symm h3
    · exact Or.inr ⟨fun o ho => absurd ho (Nat.not_lt_zero o), rfl⟩
  | succ m ih =>
    intro hm
    have hk := ih (by omega)
    have hl8 := h8 m (by omega)
    by_cases hl : 0 < tl m
    · rw [tG_1 hl]
      generalize tG S tl m = r at hk ⊢
      obtain ⟨⟨b1, b0⟩, b2, b3, b4, b5⟩ := hk
      obtain ⟨a1, a2, a3, a4, -, a6, a7⟩ := tAd_wk (S := S) (m := m) b1 (by omega) (tl m) hl8
      generalize tAd S m r.1 r.2.2 (tl m) = u at a1 a2 a3 a4 a6 a7 ⊢
      have hdm := tS_lt S m
      refine ⟨⟨a1, by show u.2.1 ≤ 8 * (m + 1); omega⟩, fun sh k y hd hw => ?_, fun o ho h0 => ?_, fun x hx => ?_, fun sh k y hd hk hw => ?_⟩
      · rcases a4 sh k y hd hw with q | ⟨q1, q2, -⟩
        · rcases b2 sh k y hd q with z | ⟨o, z1, z2, z3⟩
          · exact Or.inl z
          · exact Or.inr ⟨o, by omega, z2, z3⟩
        · exact Or.inr ⟨m, by omega, q1, q2⟩
      · rcases Nat.lt_or_ge o m with q | q
        · obtain ⟨y, hy⟩ := b3 o q h0
          exact ⟨y, wk_mono a3 _ _ hy⟩
        · rw [show o = m by omega]
          exact ⟨_, a2⟩
      · have hx : u.2.1 < x := hx
        have h1 := wk_nd a1 _ _ a2
        show upd r.2.1 u.2.2 (nI m) x = -1
        rw [upd_no (by omega)]
        exact b4 x (by omega)
      · have hw : wk u.1 sh k = some y := hw
        show (∃ o : Nat, o < m + 1 ∧ tl o = k ∧ (∀ i : Nat, i < k → sh i = tS S o i) ∧ upd r.2.1 u.2.2 (nI m) y = nI o) ∨ ((∀ o : Nat, o < m + 1 → tl o = k → ∃ i : Nat, i < k ∧ ¬ sh i = tS S o i) ∧ upd r.2.1 u.2.2 (nI m) y = -1)
        by_cases hy : y = u.2.2
        · rw [hy] at hw
          obtain ⟨c1, c2⟩ := wk_inj a1 hd hdm k (tl m) u.2.2 hw a2
          rw [hy, upd_at]
          exact Or.inl ⟨m, by omega, c1.symm, c2, rfl⟩
        · rw [upd_no hy]
          have hM : tl m = k → ∃ i : Nat, i < k ∧ ¬ sh i = tS S m i := by
            intro q
            rcases ex_diff sh (tS S m) k with z | z
            · exfalso
              rw [wk_congr z, ← q, a2] at hw
              exact hy (Option.some.inj hw).symm
            · exact z
          rcases a4 sh k y hd hw with q | ⟨q1, q2, q3⟩
          · rcases b5 sh k y hd hk q with ⟨o, z1, z2, z3, z4⟩ | ⟨z1, z2⟩
            · exact Or.inl ⟨o, by omega, z2, z3, z4⟩
            · refine Or.inr ⟨fun o ho hlo => ?_, z2⟩
              rcases Nat.lt_or_ge o m with w | w
              · exact z1 o w hlo
              · have e : o = m := by omega
                rw [e] at hlo ⊢
                exact hM hlo
          · refine Or.inr ⟨fun o ho hlo => ?_, b4 y q3⟩
            rcases Nat.lt_or_ge o m with w | w
            · rcases ex_diff sh (tS S o) k with z | z
              · exfalso
                obtain ⟨v, hv⟩ := b3 o w (by omega)
                rw [hlo, ← wk_congr z] at hv
                have h1 := wk_mono a3 _ _ hv
                rw [hw] at h1
                have h2 := wk_nd b1 _ _ hv
                have h3 : y = v := Option.some.inj h1
                omega
              · exact z
            · have e : o = m := by omega
              rw [e] at hlo ⊢
              exact hM hlo
    · rw [tG_2 hl]
      obtain ⟨⟨b1, b0⟩, b2, b3, b4, b5⟩ := hk
      refine ⟨⟨b1, by omega⟩, fun sh k y hd hw => ?_, fun o ho h0 => ?_, b4, fun sh k y hd hk hw => ?_⟩
      · rcases b2 sh k y hd hw with z | ⟨o, z1, z2, z3⟩
        · exact Or.inl z
        · exact Or.inr ⟨o, by omega, z2, z3⟩
      · rcases Nat.lt_or_ge o m with q | q
        · exact b3 o q h0
        · rw [show o = m by omega] at h0
          exact absurd h0 hl
      · rcases b5 sh k y hd hk hw with ⟨o, z1, z2, z3, z4⟩ | ⟨z1, z2⟩
        · exact Or.inl ⟨o, by omega, z2, z3, z4⟩
        · refine Or.inr ⟨fun o ho hlo => ?_, z2⟩
          rcases Nat.lt_or_ge o m with w | w
          · exact z1 o w hlo
          · rw [show o = m by omega] at hlo
            omega
/-- how many nodes: what the reference counts -/
theorem tG_nodes (S : Nat → Nat → Int32) (tl : Nat → Nat) (Z : Nat → Nat → Int32) (h8 : ∀ i : Nat, i < 20 → tl i ≤ 8) (hN : ∀ m n : Nat, m < 20 → 0 < n → n ≤ tl m → (mNw Z m n m = true ↔ nwB S tl m n)) : ∀ m : Nat, m ≤ 20 → (tG S tl m).2.2 = mNd Z tl m := by
  intro m
  induction m with
  | zero => intro _; rfl
  | succ m ih =>
    intro hm
    have hk := tG_kn S tl h8 m (by omega)
    have hi := ih (by omega)
    have hl8 := h8 m (by omega)
    have hc : ∀ j : Nat, j ≤ tl m → mNd1 Z m (tG S tl m).2.2 j = (tG S tl m).2.2 + cN (tG S tl m).1 (tS S m) j := by
      intro j
      induction j with
      | zero => intro _; rfl
      | succ j ihj =>
        intro hj
        simp only [mNd1, cN]
        rw [ihj (by omega)]
        have h1 := tKn_nw hk (n := j + 1) (by omega)
        have h2 := hN m (j + 1) (by omega) (by omega) hj
        have h3 := h2.trans h1.symm
        by_cases q : mNw Z m (j + 1) m = true
        · rw [if_pos q, if_pos (h3.mp q), Nat.add_assoc]
        · rw [if_neg q, if_neg (fun z => q (h3.mpr z)), Nat.add_zero, Nat.add_zero]
    show _ = mNd1 Z m (mNd Z tl m) (tl m)
    rw [← hi, hc (tl m) (Nat.le_refl _)]
    by_cases hl : 0 < tl m
    · rw [tG_1 hl]
      exact (tAd_wk (S := S) (m := m) hk.1.1 (by have := hk.1.2; omega) (tl m) hl8).2.2.2.2.1
    · rw [tG_2 hl, show tl m = 0 by omega]
      rfl
/-- the message of a shape, found in the tree -/
def oMs (ms : Nat → Int32) : Option Nat → Int32 | none => -1 | some y => ms y
theorem mOf_wk {ch : Nat → Nat} {ms : Nat → Int32} {sh : Nat → Nat} : ∀ (j x k : Nat), wk ch sh k = some x → mOf ch ms sh j x k = oMs ms (wk ch sh (k + j)) := by
  intro j
  induction j with
  | zero =>
    intro x k h
    show ms x = oMs ms (wk ch sh k)
    rw [h]
    rfl
  | succ j ih =>
    intro x k h
    by_cases q : ch (x * 7 + sh k) = 0
    · have h1 : mOf ch ms sh (j + 1) x k = -1 := if_pos q
      have h2 := wk_none (wk_s1 h q) j
      rw [h1, show k + (j + 1) = k + 1 + j by omega, h2]
      rfl
    · have h1 : mOf ch ms sh (j + 1) x k = mOf ch ms sh j (ch (x * 7 + sh k)) (k + 1) := if_neg q
      rw [h1, ih _ _ (wk_s2 h q), show k + (j + 1) = k + 1 + j by omega]
theorem tG_shape (S : Nat → Nat → Int32) (tl : Nat → Nat) (h8 : ∀ i : Nat, i < 20 → tl i ≤ 8) (sh : Nat → Nat) (hd : dg sh) {n : Nat} (hn : 0 < n) :
    (∃ o : Nat, o < 20 ∧ tl o = n ∧ (∀ i : Nat, i < n → sh i = tS S o i) ∧ mOf (tG S tl 20).1 (tG S tl 20).2.1 sh n 0 0 = nI o) ∨ ((∀ o : Nat, o < 20 → tl o = n → ∃ i : Nat, i < n ∧ ¬ sh i = tS S o i) ∧ mOf (tG S tl 20).1 (tG S tl 20).2.1 sh n 0 0 = -1) := by
  have hk := tG_kn S tl h8 20 (Nat.le_refl _)
  have hm := mOf_wk (ch := (tG S tl 20).1) (ms := (tG S tl 20).2.1) (sh := sh) n 0 0 rfl
  rw [Nat.zero_add] at hm
  obtain ⟨-, -, b3, -, b5⟩ := hk
  cases hw : wk (tG S tl 20).1 sh n with
  | none =>
    rw [hw] at hm
    refine Or.inr ⟨fun o ho hlo => ?_, hm⟩
    rcases ex_diff sh (tS S o) n with z | z
    · exfalso
      obtain ⟨v, hv⟩ := b3 o ho (by omega)
      rw [hlo, ← wk_congr z, hw] at hv
      cases hv
    · exact z
  | some y =>
    rw [hw] at hm
    have hm : mOf (tG S tl 20).1 (tG S tl 20).2.1 sh n 0 0 = (tG S tl 20).2.1 y := hm
    rw [hm]
    exact b5 sh n y hd hn hw

