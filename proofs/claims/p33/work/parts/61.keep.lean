theorem sc_ne {S : Nat → Nat → Int32} {k j : Nat} {v : Int32} (h : 0 < j) : sc S k v j = S j := by
  unfold sc
  rw [show Nat.beq j 0 = false by cases j with | zero => omega | succ j => rfl]
  rfl
theorem sc_k {S : Nat → Nat → Int32} {k i : Nat} {v : Int32} (h : i ≠ k) : sc S k v 0 i = S 0 i := by
  show (bif Nat.beq i k then v else S 0 i) = S 0 i
  rw [show Nat.beq i k = false from Bool.eq_false_iff.mpr (fun q => h (Nat.eq_of_beq_eq_true q))]
  rfl
theorem sc_at {S : Nat → Nat → Int32} {k : Nat} {v : Int32} : sc S k v 0 k = v := by
  show (bif Nat.beq k k then v else S 0 k) = v
  rw [Nat.beq_refl]
  rfl
theorem sa_ne {S : Nat → Nat → Int32} {k j : Nat} {f : Nat → Int32} (h : j ≠ k) : sa S k f j = S j := by
  unfold sa
  rw [show Nat.beq j k = false from Bool.eq_false_iff.mpr (fun q => h (Nat.eq_of_beq_eq_true q))]
  rfl
theorem sa_at {S : Nat → Nat → Int32} {k : Nat} {f : Nat → Int32} : sa S k f k = f := by
  unfold sa
  rw [Nat.beq_refl]
  rfl
theorem upd_no {f : Nat → Int32} {k i : Nat} {v : Int32} (h : i ≠ k) : upd f k v i = f i := if_neg h
theorem upd_at {f : Nat → Int32} {k : Nat} {v : Int32} : upd f k v k = v := if_pos rfl
theorem sameSh_e {S P : Nat → Nat → Int32} (h6 : P 6 = S 6) (h7 : P 7 = S 7) (m o : Nat) : sameSh P m o = sameSh S m o := by unfold sameSh; rw [h6, h7]
theorem RS.scal {S P : Nat → Nat → Int32} {st su : Nat → Int32} (hR : RS S st) (h : ∀ j, 6 ≤ j → P j = S j) (h2 : ∀ k, 5 ≤ k → su k = st k) (h3 : P 0 3 = S 0 3) (h4 : P 0 0 = su 0 ∧ P 0 1 = su 1 ∧ P 0 2 = su 2 ∧ P 5 0 = su 3 ∧ P 5 1 = su 4) : RS P su := by
  obtain ⟨-, b, c, d, e, f, g, i, j⟩ := hR
  refine ⟨h4, fun r hr => ?_, fun m hm => ?_, fun m k hm hk => ?_, fun k hk => ?_, fun k hk => ?_, fun m i hm hi => ?_, fun r hr => ?_, ?_⟩
  · simp (disch := omega) only [h, h2]; exact b r hr
  · simp (disch := omega) only [h, h2]; exact c m hm
  · rw [h 6 (by omega)] at hk
    simp (disch := omega) only [h, h2]; exact d m k hm hk
  · simp (disch := omega) only [h, h2]; exact e k hk
  · simp (disch := omega) only [h, h2]; exact f k hk
  · simp (disch := omega) only [h, h2]; exact g m i hm hi
  · rw [h3]
    simp (disch := omega) only [h2]; exact i r hr
  · simp (disch := omega) only [h, h2]; exact j
theorem SI.scal {B B' : Nat} {S P : Nat → Nat → Int32} (hI : SI B S) (hB : B ≤ B') (h : ∀ j, 6 ≤ j → P j = S j) (h0 : (P 0 0 = nI (nOf (P 0 0)) ∧ nOf (P 0 0) ≤ B') ∧ (P 0 1 = nI (nOf (P 0 1)) ∧ nOf (P 0 1) < 7) ∧ (P 0 2 = nI (nOf (P 0 2)) ∧ nOf (P 0 2) < 8) ∧ (P 0 3 = nI (nOf (P 0 3)) ∧ nOf (P 0 3) < 64) ∧ (P 5 0 = nI (nOf (P 5 0)) ∧ nOf (P 5 0) < 3) ∧ (P 5 1 = nI (nOf (P 5 1)) ∧ nOf (P 5 1) < 10)) : SI B' P := by
  obtain ⟨-, -, -, -, -, -, g, i, j⟩ := hI
  obtain ⟨z0, z1, z2, z3, z4, z5⟩ := h0
  refine ⟨z0, z1, z2, z3, z4, z5, fun m hm => ?_, fun r hr => ?_, fun m o hm ho hmo h9 => ?_⟩
  · have h9 := g m hm
    simp (disch := omega) only [h]
    exact h9
  · have h9 := i r hr
    simp (disch := omega) only [h]
    exact ⟨h9.1, ⟨h9.2.1.1, Nat.le_trans h9.2.1.2 hB⟩, h9.2.2.1, Nat.le_trans h9.2.2.2 hB⟩
  · rw [h 6 (by omega)] at h9
    rw [sameSh_e (h 6 (by omega)) (h 7 (by omega))]
    exact j m o hm ho hmo h9
theorem RS.key {S : Nat → Nat → Int32} {st : Nat → Int32} (hR : RS S st) (v : Int32) : RS (sc S 1 v) (upd st 1 v) :=
  hR.scal (fun j hj => sc_ne (by omega)) (fun k hk => upd_no (by omega)) (sc_k (by decide)) ⟨(sc_k (by decide)).trans (hR.1.1.trans (upd_no (by decide)).symm), sc_at.trans upd_at.symm, (sc_k (by decide)).trans (hR.1.2.2.1.trans (upd_no (by decide)).symm), (congrFun (sc_ne (by decide)) 0).trans (hR.1.2.2.2.1.trans (upd_no (by decide)).symm), (congrFun (sc_ne (by decide)) 1).trans (hR.1.2.2.2.2.trans (upd_no (by decide)).symm)⟩
theorem SI.key {B : Nat} {S : Nat → Nat → Int32} (hI : SI B S) {kk : Nat} (hk : kk < 7) : SI B (sc S 1 (nI kk)) := by
  have h := hI
  obtain ⟨a0, a1, a2, a3, a4, a5, -⟩ := h
  refine hI.scal (Nat.le_refl _) (fun j hj => sc_ne (by omega)) ?_
  rw [sc_k (i := 0) (by decide), sc_at, sc_k (i := 2) (by decide), sc_k (i := 3) (by decide), sc_ne (j := 5) (by decide)]
  exact ⟨a0, ⟨by rw [nOf_n (by omega)], by rw [nOf_n (by omega)]; exact hk⟩, a2, a3, a4, a5⟩
theorem RS.lk {S : Nat → Nat → Int32} {st : Nat → Int32} (hR : RS S st) (v : Int32) : RS (sc S 2 v) (upd st 2 v) :=
  hR.scal (fun j hj => sc_ne (by omega)) (fun k hk => upd_no (by omega)) (sc_k (by decide)) ⟨(sc_k (by decide)).trans (hR.1.1.trans (upd_no (by decide)).symm), (sc_k (by decide)).trans (hR.1.2.1.trans (upd_no (by decide)).symm), sc_at.trans upd_at.symm, (congrFun (sc_ne (by decide)) 0).trans (hR.1.2.2.2.1.trans (upd_no (by decide)).symm), (congrFun (sc_ne (by decide)) 1).trans (hR.1.2.2.2.2.trans (upd_no (by decide)).symm)⟩
theorem lk_all : ∀ (a : Fin 8) (f : Fin 3), (nI a.val ||| iShl (nI 1) (nI f.val) = nI (nOf (nI a.val ||| iShl (nI 1) (nI f.val))) ∧ nOf (nI a.val ||| iShl (nI 1) (nI f.val)) < 8) ∧ (nI a.val &&& (iShl (nI 1) (nI f.val) ^^^ -1) = nI (nOf (nI a.val &&& (iShl (nI 1) (nI f.val) ^^^ -1))) ∧ nOf (nI a.val &&& (iShl (nI 1) (nI f.val) ^^^ -1)) < 8) := by decide +kernel
theorem SI.lk {B : Nat} {S : Nat → Nat → Int32} (hI : SI B S) {f : Nat} (hf : f < 3) (b : Bool) : SI B (sc S 2 (pLk S f b)) := by
  have h := hI
  obtain ⟨a0, a1, ⟨a2, a2'⟩, a3, a4, a5, -⟩ := h
  refine hI.scal (Nat.le_refl _) (fun j hj => sc_ne (by omega)) ?_
  rw [sc_k (i := 0) (by decide), sc_k (i := 1) (by decide), sc_at, sc_k (i := 3) (by decide), sc_ne (j := 5) (by decide)]
  refine ⟨a0, a1, ?_, a3, a4, a5⟩
  have h1 := lk_all ⟨nOf (S 0 2), a2'⟩ ⟨f, hf⟩
  simp only [← a2] at h1
  cases b
  · exact h1.2
  · exact h1.1
theorem RS.set {S : Nat → Nat → Int32} {st : Nat → Int32} (hR : RS S st) {i : Nat} (hi : i < 2) (v : Int32) : RS (sa S 5 (upd (S 5) i v)) (upd st (3 + i) v) := by
  refine hR.scal (fun j hj => sa_ne (by omega)) (fun k hk => upd_no (by omega)) (congrFun (sa_ne (by decide)) 3) ?_
  obtain ⟨⟨a0, a1, a2, a3, a4⟩, -⟩ := hR
  rw [sa_ne (j := 0) (by decide), sa_at]
  rcases (show i = 0 ∨ i = 1 by omega) with rfl | rfl
  · exact ⟨a0, a1, a2, rfl, a4⟩
  · exact ⟨a0, a1, a2, a3, rfl⟩
theorem RS.tell {S : Nat → Nat → Int32} {st : Nat → Int32} (hR : RS S st) {r : Nat} (hr : r < 6) (v : Int32) : RS (sa S 11 (upd (S 11) r v)) (upd st (14 + 5 * r) v) := by
  obtain ⟨a, b, c, d, e, f, g, i, j⟩ := hR
  refine ⟨?_, fun q hq => ?_, fun m hm => ?_, fun m k hm hk => ?_, fun k hk => ?_, fun k hk => ?_, fun m i hm hi => ?_, fun r hr => ?_, ?_⟩
  · simp (disch := omega) only [sa_ne, upd_no]; exact a
  · obtain ⟨b1, b2, b3, b4⟩ := b q hq
    rw [sa_at]
    simp (disch := omega) only [sa_ne, upd_no]
    refine ⟨?_, b2, b3, b4⟩
    by_cases hqr : q = r
    · rw [hqr, upd_at, upd_at]
    · rw [upd_no hqr, upd_no (by omega)]; exact b1
  · simp (disch := omega) only [sa_ne, upd_no]; exact c m hm
  · rw [sa_ne (j := 6) (by decide)] at hk
    simp (disch := omega) only [sa_ne, upd_no]; exact d m k hm hk
  · simp (disch := omega) only [sa_ne, upd_no]; exact e k hk
  · simp (disch := omega) only [sa_ne, upd_no]; exact f k hk
  · simp (disch := omega) only [sa_ne, upd_no]; exact g m i hm hi
  · simp (disch := omega) only [sa_ne, upd_no]; exact i r hr
  · simp (disch := omega) only [sa_ne, upd_no]; exact j

