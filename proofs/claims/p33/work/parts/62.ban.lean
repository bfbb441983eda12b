theorem a1_or (x : Int32) : x &&& nI 1 = nI 0 ∨ x &&& nI 1 = nI 1 := by
  have h : (x &&& nI 1).toBitVec = BitVec.setWidth 32 (BitVec.ofBool (x.toBitVec.getLsbD 0)) := BitVec.and_one_eq_setWidth_ofBool_getLsbD
  cases hb : x.toBitVec.getLsbD 0
  · rw [hb] at h
    exact Or.inl (Int32.toBitVec_inj.mp (h.trans (by decide)))
  · rw [hb] at h
    exact Or.inr (Int32.toBitVec_inj.mp (h.trans (by decide)))
theorem a1_xor (x y : Int32) : (x ^^^ y) &&& nI 1 = (x &&& nI 1) ^^^ (y &&& nI 1) := by
  refine Int32.toBitVec_inj.mp ?_
  show (x.toBitVec ^^^ y.toBitVec) &&& (nI 1).toBitVec = (x.toBitVec &&& (nI 1).toBitVec) ^^^ (y.toBitVec &&& (nI 1).toBitVec)
  ext i hi
  simp only [BitVec.getElem_and, BitVec.getElem_xor]
  cases x.toBitVec[i] <;> cases y.toBitVec[i] <;> cases (nI 1).toBitVec[i] <;> rfl
theorem shr_xor (x y k : Int32) : iShr (x ^^^ y) k = iShr x k ^^^ iShr y k := by
  refine Int32.toBitVec_inj.mp ?_
  show BitVec.sshiftRight' (x.toBitVec ^^^ y.toBitVec) _ = BitVec.sshiftRight' x.toBitVec _ ^^^ BitVec.sshiftRight' y.toBitVec _
  exact BitVec.sshiftRight_xor_distrib _ _ _
theorem one_bit : ∀ a b : Fin 20, iShr (iShl (nI 1) (nI a.val)) (nI b.val) &&& nI 1 = if a = b then nI 1 else nI 0 := by decide +kernel
theorem pHB_xor (x : Int32) {a b : Nat} (ha : a < 20) (hb : b < 20) : pHB (x ^^^ iShl (nI 1) (nI a)) (nI b) = if a = b then !pHB x (nI b) else pHB x (nI b) := by
  unfold pHB
  have h := one_bit ⟨a, ha⟩ ⟨b, hb⟩
  simp only [Fin.mk.injEq] at h
  rw [shr_xor, a1_xor, h]
  rcases a1_or (iShr x (nI b)) with h1 | h1 <;> rw [h1] <;> by_cases hab : a = b
  · rw [if_pos hab, if_pos hab]; decide
  · rw [if_neg hab, if_neg hab]; decide
  · rw [if_pos hab, if_pos hab]; decide
  · rw [if_neg hab, if_neg hab]; decide
theorem RS.ban {S : Nat → Nat → Int32} {st : Nat → Int32} (hR : RS S st) {f m : Nat} (hf : f < 3) (hm : m < 20) : RS (sa S 8 (upd (S 8) m (S 8 m ^^^ iShl (nI 1) (nI f)))) (upd st (44 + f) (st (44 + f) ^^^ iShl (nI 1) (nI m))) := by
  obtain ⟨a, b, c, d, e, f', g, i, j⟩ := hR
  refine ⟨?_, fun q hq => ?_, fun m hm => ?_, fun m k hm hk => ?_, fun k hk => ?_, fun k hk => ?_, fun o i ho hi => ?_, fun r hr => ?_, ?_⟩
  · simp (disch := omega) only [sa_ne, upd_no]; exact a
  · simp (disch := omega) only [sa_ne, upd_no]; exact b q hq
  · simp (disch := omega) only [sa_ne, upd_no]; exact c m hm
  · rw [sa_ne (j := 6) (by decide)] at hk
    simp (disch := omega) only [sa_ne, upd_no]; exact d m k hm hk
  · simp (disch := omega) only [sa_ne, upd_no]; exact e k hk
  · simp (disch := omega) only [sa_ne, upd_no]; exact f' k hk
  · have h1 : pHB (S 8 o) (nI i) = pHB (st (44 + i)) (nI o) := g o i ho hi
    show _ = pHB (upd st (44 + f) (st (44 + f) ^^^ iShl (nI 1) (nI m)) (44 + i)) (nI o)
    rw [sa_at]
    by_cases hom : o = m
    · subst hom
      rw [upd_at, pHB_xor _ (by omega) (by omega), h1]
      by_cases hif : f = i
      · subst hif
        rw [upd_at, pHB_xor _ ho ho, if_pos rfl, if_pos rfl]
      · rw [upd_no (by omega), if_neg hif]
    · rw [upd_no hom, h1]
      by_cases hif : f = i
      · subst hif
        rw [upd_at, pHB_xor _ hm ho, if_neg (fun q => hom q.symm)]
      · rw [upd_no (by omega)]
  · simp (disch := omega) only [sa_ne, upd_no]; exact i r hr
  · simp (disch := omega) only [sa_ne, upd_no]; exact j
/-- what a ban answers -/
theorem ban_ans {S : Nat → Nat → Int32} {st : Nat → Int32} (hR : RS S st) {f m : Nat} (hf : f < 3) (hm : m < 20) : bI (pHB (S 8 m ^^^ iShl (nI 1) (nI f)) (nI f)) = iShr (upd st (44 + f) (st (44 + f) ^^^ iShl (nI 1) (nI m)) (44 + f)) (nI m) &&& nI 1 := by
  have h1 := (hR.ban hf hm).2.2.2.2.2.2.1 m f hm hf
  rw [sa_at, upd_at] at h1
  rw [h1]
  rcases a1_or (iShr (upd st (44 + f) (st (44 + f) ^^^ iShl (nI 1) (nI m)) (44 + f)) (nI m)) with h | h <;> rw [h] <;> decide

