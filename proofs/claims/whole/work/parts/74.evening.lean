/-! an evening part by part keeps school and row together -/
theorem nn_of {x : Int32} (h : x = nI (nOf x)) (h2 : nOf x < 2 ^ 31) : ¬ x < 0 := by
  rw [h]
  exact nI_pos h2
theorem tTu_v (U : Nat → Nat → Int32) (cd : Nat → Nat) (n a b : Nat) : tTu U cd n a b 1 = (tV cd n a (U 1) (U 2) (b - a)).1 := rfl
section PEQ
variable {cd : Nat → Nat} {L B : Nat} {S : Nat → Nat → Int32} {st : Nat → Int32} {s : FE}
/-- what a part does: class and reference -/
def PEq (cd : Nat → Nat) (L B : Nat) (S : Nat → Nat → Int32) (s : FE) (Y : Nat → Nat → Int32) (P : Int32 × (Nat → Nat → Int32) × (Nat → Nat → Int32) × (Nat → Nat → Int32) × (Nat → Nat → Int32)) : Prop :=
  P.1 = mPy Y (pAt cd L s.1) (pyFi cd L s) (pySe cd L s) (pyN cd L s) ∧
  (P.1 = 0 → RS P.2.1 (mDoF Y (pAt cd L s.1) (pyFi cd L s) (pySe cd L s) (pyN cd L s)) ∧ SI (B + 1) P.2.1 ∧ ¬ mDoV Y (pAt cd L s.1) (pyFi cd L s) (pyN cd L s) < 0) ∧
  (¬ P.1 = 0 → P.2.1 = S) ∧ pOK cd L s.1 (rpS9 cd L s).1
theorem part_eq (hL : L ≤ 60) (hc : ∀ i : Nat, i < L → cd i < 127) (hR : RS S st) (hI : SI B S) (hB9 : B + 1 < 2 ^ 31) (hp : s.1 ≤ L) (hg : gS cd L 1 true s.1 = (1, 0)) (hB : rpB cd L s = true) (Z : Nat → Nat → Int32) (sv : Nat) (O U K : Nat → Nat → Int32) :
    PEq cd L B S s (pyZ Z sv (rpS9 cd L s) st) (pPP S (tlF S) O U K cd L s.1 (rpS9 cd L s).1) := by
  have hY2 : (pyZ Z sv (rpS9 cd L s) st) 2 = st := rfl
  have hYn : (pyZ Z sv (rpS9 cd L s) st) 0 13 = (rpS9 cd L s).2.2.2.2.1 := rfl
  have hYt : (pyZ Z sv (rpS9 cd L s) st) 13 = (rpS9 cd L s).2.2.2.2.2.1 := rfl
  generalize pyZ Z sv (rpS9 cd L s) st = Y at hY2 hYn hYt ⊢
  rw [← hY2] at hR
  have hk0 := hI.1
  unfold PEq
  by_cases h33 : pAt cd L s.1 = 33
  · have e1 : mPy Y (pAt cd L s.1) (pyFi cd L s) (pySe cd L s) (pyN cd L s) = nI 0 := by unfold mPy; rw [h33]; rfl
    have e2 : mDoF Y (pAt cd L s.1) (pyFi cd L s) (pySe cd L s) (pyN cd L s) = mRiF (Y 2) 6 := by unfold mDoF; rw [h33]; rfl
    have e3 : mDoV Y (pAt cd L s.1) (pyFi cd L s) (pyN cd L s) = mRiF (Y 2) 6 0 := by unfold mDoV; rw [h33]; rfl
    rw [e1, e2, e3, pPP_n S (tlF S) O U K cd L s.1 (rpS9 cd L s).1 h33]
    refine ⟨rfl, fun _ => ⟨hR.bell, hI.bell hB9, ?_⟩, fun z => absurd nI_0 z, Or.inr (Or.inl h33)⟩
    rw [rif_0, ← hR.1.1, hk0.1, nI_add]
    exact nI_pos (by have := hk0.2; omega)
  by_cases h107 : pAt cd L s.1 = 107
  · have e1 : mPy Y (pAt cd L s.1) (pyFi cd L s) (pySe cd L s) (pyN cd L s) = nI 0 := by unfold mPy; rw [h107]; rfl
    have e2 : mDoF Y (pAt cd L s.1) (pyFi cd L s) (pySe cd L s) (pyN cd L s) = upd (Y 2) 1 (nI (pyFi cd L s)) := by unfold mDoF; rw [h107]; rfl
    have e3 : mDoV Y (pAt cd L s.1) (pyFi cd L s) (pyN cd L s) = Y 2 1 := by unfold mDoV; rw [h107]; rfl
    have hr := rp_107 h107
    rw [hr.1] at hB
    have hq : (rpS9 cd L s).1 = rnA cd L (s.1 + 1) 6 := congrArg Prod.fst hr.2
    have hfi : pyFi cd L s = rnN cd L (s.1 + 1) 6 := by
      unfold pyFi
      rw [if_neg h33, hr.2]
      exact (rnV_n hB (by decide)).2
    have h6 := rnN_6 hB (by decide)
    have hN : pN1 cd L s.1 (rpS9 cd L s).1 = nI (pyFi cd L s) := by
      rw [hq, hfi]
      exact num_v hB (by decide)
    have hge := rnA_ge (cd := cd) (L := L) (a := s.1 + 1) (mo := 6)
    rw [e1, e2, e3, pPP_k S (tlF S) O U K cd L s.1 (rpS9 cd L s).1 h107, hN]
    refine ⟨rfl, fun _ => ⟨hR.key _, (hI.key (by omega)).mono (Nat.le_succ B), ?_⟩, fun z => absurd nI_0 z, Or.inr (Or.inr (Or.inl ⟨Or.inl h107, by omega⟩))⟩
    rw [← hR.1.2.1]
    exact nn_of hI.2.1.1 (by have := hI.2.1.2; omega)
  by_cases h116 : pAt cd L s.1 = 116
  · have e1 : mPy Y (pAt cd L s.1) (pyFi cd L s) (pySe cd L s) (pyN cd L s) = nI 0 := by unfold mPy; rw [h116]; rfl
    have e2 : mDoF Y (pAt cd L s.1) (pyFi cd L s) (pySe cd L s) (pyN cd L s) = upd (Y 2) (14 + 5 * pyFi cd L s) (Y 2 1) := by unfold mDoF; rw [h116]; rfl
    have e3 : mDoV Y (pAt cd L s.1) (pyFi cd L s) (pyN cd L s) = Y 2 (14 + 5 * pyFi cd L s) := by unfold mDoV; rw [h116]; rfl
    have hr := rp_116 h116
    rw [hr.1] at hB
    have hq : (rpS9 cd L s).1 = rnA cd L (s.1 + 1) 5 := congrArg Prod.fst hr.2
    have hfi : pyFi cd L s = rnN cd L (s.1 + 1) 5 := by
      unfold pyFi
      rw [if_neg h33, hr.2]
      exact (rnV_n hB (by decide)).2
    have h6 := rnN_6 hB (by decide)
    have hN : pN1 cd L s.1 (rpS9 cd L s).1 = nI (pyFi cd L s) := by
      rw [hq, hfi]
      exact num_v hB (by decide)
    have hge := rnA_ge (cd := cd) (L := L) (a := s.1 + 1) (mo := 5)
    have hf6 : pyFi cd L s < 6 := by omega
    have hT : pTel S (nI (pyFi cd L s)) = sa S 11 (upd (S 11) (pyFi cd L s) (S 0 1)) := by
      rw [pTel_1 S (pBt_T hf6 (by decide)), nOf_n (by omega)]
    rw [e1, e2, e3, pPP_t S (tlF S) O U K cd L s.1 (rpS9 cd L s).1 h116, hN, hT]
    refine ⟨rfl, fun _ => ⟨?_, (hI.tell hI.2.1).mono (Nat.le_succ B), ?_⟩, fun z => absurd nI_0 z, Or.inr (Or.inr (Or.inl ⟨Or.inr h116, by omega⟩))⟩
    · rw [← hR.1.2.1]
      exact hR.tell hf6 _
    · rw [← (hR.2.1 _ hf6).1]
      have h9 := (hI.2.2.2.2.2.2.2.1 _ hf6).1
      exact nn_of h9.1 (by have := h9.2; omega)
  by_cases h119 : pAt cd L s.1 = 119
  · have e1 : mPy Y (pAt cd L s.1) (pyFi cd L s) (pySe cd L s) (pyN cd L s) = mWy Y (pyFi cd L s) (pySe cd L s) := by unfold mPy; rw [h119]; rfl
    have e2 : mDoF Y (pAt cd L s.1) (pyFi cd L s) (pySe cd L s) (pyN cd L s) = mWhF Y (pyFi cd L s) (pySe cd L s) := by unfold mDoF; rw [h119]; rfl
    have e3 : mDoV Y (pAt cd L s.1) (pyFi cd L s) (pyN cd L s) = mOn (mKn Y (pyFi cd L s) 6) 6 := by unfold mDoV; rw [h119]; rfl
    have hr := rp_119 h119
    rw [hr.1] at hB
    have hC : rwC cd L (s.1 + 1) = true := by
      unfold rwB at hB
      rw [Bool.and_eq_true] at hB
      exact hB.1
    rw [rwB_t hC] at hB
    have hC1 : rnB cd L (s.1 + 1) 5 = true := by
      unfold rwC at hC
      rw [Bool.and_eq_true] at hC
      exact hC.1
    have hA : rnA cd L (s.1 + 1) 5 = s.1 + 1 + 1 := one_A hC1 (by decide)
    have hq : (rpS9 cd L s).1 = rnA cd L (s.1 + 1 + 1 + 1) 19 := by
      rw [hr.2]
      show rwA cd L (s.1 + 1) = _
      rw [rwA_t hC, hA]
    rw [hA] at hB
    have hfi : pyFi cd L s = rnN cd L (s.1 + 1) 5 := by
      unfold pyFi
      rw [if_neg h33, hr.2]
      exact (rnV_n hC1 (by decide)).2
    have hse : pySe cd L s = rnN cd L (s.1 + 1 + 1 + 1) 19 := by
      unfold pySe
      rw [if_pos h119, hr.2]
      show nOf (rwS cd L (s.1 + 1) s.2.2.2.1) = _
      rw [rwS_t hC, hA]
      exact (rnV_n hB (by decide)).2
    have h6 := rnN_6 hC1 (by decide)
    have h20 := rnN_le hB (by decide)
    have hNx : pNx cd L s.1 = nI (pyFi cd L s) := by
      have h1 := num_v hC1 (by decide)
      rw [hA] at h1
      rw [hfi]
      exact h1
    have hNy : pNy cd L s.1 (rpS9 cd L s).1 = nI (pySe cd L s) := by
      rw [hq, hse]
      exact num_v hB (by decide)
    have hge := rnA_ge (cd := cd) (L := L) (a := s.1 + 1 + 1 + 1) (mo := 19)
    have hf6 : pyFi cd L s < 6 := by omega
    have hs20 : pySe cd L s < 20 := by omega
    have hb1 := pBt_T hf6 (show 6 < 2 ^ 31 by decide)
    have hb2 := pBt_T hs20 (show 20 < 2 ^ 31 by decide)
    have hw := wy_eq hR hf6 hs20
    have hPW : pPW S (nI (pyFi cd L s)) (nI (pySe cd L s)) = mWy Y (pyFi cd L s) (pySe cd L s) := by
      rw [← pPW_1 S _ _ hb1 hb2, nOf_n (by omega), nOf_n (by omega), hw]
    rw [e1, e2, e3, pPP_w S (tlF S) O U K cd L s.1 (rpS9 cd L s).1 h119, hNx, hNy]
    refine ⟨hPW, fun z => ?_, fun z => ?_, Or.inl ⟨h119, by omega⟩⟩
    · have z : pPW S (nI (pyFi cd L s)) (nI (pySe cd L s)) = 0 := z
      have hPS : pPS S O (nI (pyFi cd L s)) (nI (pySe cd L s)) = pRem S (pFor O S (pyFi cd L s) (pySe cd L s)) (pyFi cd L s) (pySe cd L s) := by
        rw [(pP_1 S O _ _ ⟨hb1, hb2, by rw [nOf_n (by omega), nOf_n (by omega), hw, ← hPW, z]⟩).1, nOf_n (by omega), nOf_n (by omega)]
      show RS (pPS S O (nI (pyFi cd L s)) (nI (pySe cd L s))) _ ∧ SI (B + 1) (pPS S O (nI (pyFi cd L s)) (nI (pySe cd L s))) ∧ _
      rw [hPS]
      have hu := un_eq hR hI hf6
      have ho := on_eq hu.2.1 hu.2.2
      exact ⟨hR.wh hI hf6 hs20 O, SI.wh hR hI hf6 hB9 O, nn_of ho.2.1 (by have := ho.2.2; omega)⟩
    · have z : ¬ pPW S (nI (pyFi cd L s)) (nI (pySe cd L s)) = 0 := z
      show pPS S O (nI (pyFi cd L s)) (nI (pySe cd L s)) = S
      refine (pP_2 S O _ _ (Or.inr (Or.inr ?_))).1
      rw [nOf_n (by omega), nOf_n (by omega), hw, ← hPW]
      exact z
  have e1 : mPy Y (pAt cd L s.1) (pyFi cd L s) (pySe cd L s) (pyN cd L s) = mWT Y (pyFi cd L s) (pyN cd L s) := by
    unfold mPy
    rw [if_neg h119, if_neg (fun z => z.elim h33 (fun z => z.elim h107 h116))]
  have e2 : mDoF Y (pAt cd L s.1) (pyFi cd L s) (pySe cd L s) (pyN cd L s) = mTcF (Y 2) (Y 13) (pyFi cd L s) (pyN cd L s) 8 := by
    unfold mDoF
    rw [if_neg h33, if_neg h107, if_neg h116, if_neg h119]
  have e3 : mDoV Y (pAt cd L s.1) (pyFi cd L s) (pyN cd L s) = nI (pyN cd L s) := by
    unfold mDoV
    rw [if_neg h33, if_neg h107, if_neg h116, if_neg h119]
  have hC : rpC cd L s.1 = true := by
    cases hC : rpC cd L s.1 with
    | true => rfl
    | false =>
      rw [(rp_n h33 h107 h116 h119 hC).1] at hB
      cases hB
  have hr := rp_t h33 h107 h116 h119 hC
  rw [hr.1] at hB
  have hC2 := hC
  unfold rpC at hC2
  rw [Bool.and_eq_true, decide_eq_true_eq] at hC2
  obtain ⟨hC1, h61⟩ := hC2
  have hlt := pAt_pos (cd := cd) (L := L) (a := rnA cd L s.1 19) (by omega)
  have hpe : pEq cd L s.1 = rnA cd L s.1 19 := by
    rcases two_A hC1 with ⟨t1, t2⟩ | ⟨t1, t2, t3⟩ | ⟨t1, t2, t3⟩
    · rw [t2] at h61 ⊢
      exact if_pos h61
    · rw [t3] at h61 ⊢
      exact if_pos h61
    · rw [t3]
      exact if_neg (by omega)
  have hfi : pyFi cd L s = rnN cd L s.1 19 := by
    unfold pyFi
    rw [if_neg h33, hr.2]
    exact (rnV_n hC1 (by decide)).2
  have h20 := rnN_le hC1 (by decide)
  have hf20 : pyFi cd L s < 20 := by omega
  have hTx : pTx cd L s.1 = nI (pyFi cd L s) := by
    show pNu cd L s.1 (pEq cd L s.1 - s.1) = _
    rw [hpe, hfi]
    exact num_v hC1 (by decide)
  have hgA : gS cd L 1 true (rnA cd L s.1 19 + 1) = (4, 0) := by
    have hd := dig_t hC1
    have hg1 : gS cd L 1 true (s.1 + 1) = (gSta (pAt cd L s.1), 0) := by rw [gS_s, hg]; rfl
    rcases two_A hC1 with ⟨t1, t2⟩ | ⟨t1, t2, t3⟩ | ⟨t1, t2, t3⟩
    · rw [t2] at h61 ⊢
      have hg2 : gS cd L 1 true (s.1 + 1) = (3, 0) := by
        rw [hg1]
        unfold gSta
        rw [if_neg h33, if_neg h119, if_neg h116, if_neg h107, if_neg t1, show pIn9 (pAt cd L s.1) 48 57 = true from decide_eq_true (by omega)]
        rfl
      rw [gS_s, hg2, h61]
      rfl
    · rw [t3] at h61 ⊢
      rw [gS_s, hg1, t1, h61]
      rfl
    · rw [t3] at h61 ⊢
      have hg2 : gS cd L 1 true (s.1 + 1) = (2, 0) := by rw [hg1, t1]; rfl
      have hg3 : gS cd L 1 true (s.1 + 1 + 1) = (3, 0) := by
        rw [gS_s, hg2]
        show (if pIn9 (pAt cd L (s.1 + 1)) 48 57 then 3 else gWh (pAt cd L (s.1 + 1)) 61 4, 0) = (3, 0)
        rw [show pIn9 (pAt cd L (s.1 + 1)) 48 57 = true from decide_eq_true t2]
        rfl
      show gS cd L 1 true (s.1 + 1 + 1 + 1) = (4, 0)
      have h61 : pAt cd L (s.1 + 1 + 1) = 61 := h61
      rw [gS_s, hg3, h61]
      rfl
  have hE := tu_end (cd := cd) (L := L) (a := rnA cd L s.1 19 + 1) (st := 1) (ev := true) (U 1) (U 2) s.2.2.2.2.2.1 s.2.2.2.2.2.2 hc (by omega) hgA
  have hGd := rtE_Gd (cd := cd) (L := L) (a := rnA cd L s.1 19 + 1) s.2.2.2.2.2.1 s.2.2.2.2.2.2 hc (by omega)
  have hIv := rtE_I (cd := cd) (L := L) (a := rnA cd L s.1 19 + 1) (t := s.2.2.2.2.2.1) (o := s.2.2.2.2.2.2) (by omega)
  have hv : rpE cd L s.1 s.2.2.2.2.2.1 s.2.2.2.2.2.2 = rtE cd L (rnA cd L s.1 19 + 1) s.2.2.2.2.2.1 s.2.2.2.2.2.2 := rfl
  rw [hv] at hB
  have hq : (rpS9 cd L s).1 = (rtE cd L (rnA cd L s.1 19 + 1) s.2.2.2.2.2.1 s.2.2.2.2.2.2).1.1 := congrArg Prod.fst hr.2
  have hn2 : (rpS9 cd L s).2.2.2.2.1 = nI (rtE cd L (rnA cd L s.1 19 + 1) s.2.2.2.2.2.1 s.2.2.2.2.2.2).1.2.1 := congrArg (fun v : FE => v.2.2.2.2.1) hr.2
  have ht2 : (rpS9 cd L s).2.2.2.2.2.1 = (rtE cd L (rnA cd L s.1 19 + 1) s.2.2.2.2.2.1 s.2.2.2.2.2.2).1.2.2 := congrArg (fun v : FE => v.2.2.2.2.2.1) hr.2
  have hN : pyN cd L s = (rtE cd L (rnA cd L s.1 19 + 1) s.2.2.2.2.2.1 s.2.2.2.2.2.2).1.2.1 := by
    unfold pyN
    rw [hn2, nOf_n (by have := hIv.2.1; omega)]
  rw [hn2, ← hN] at hYn
  rw [ht2] at hYt
  have hN9 : pyN cd L s ≤ 9 := by rw [hN]; exact hIv.2.1
  have hE1 := (hE.1 hB).2.1
  have hEge := hE.2.2.1
  rw [← hYt] at hE1 hGd
  rw [← hN] at hE1 hGd
  rw [← hq] at hE1 hEge
  have hnt : pTN U cd L s.1 (rpS9 cd L s).1 = pyN cd L s := by
    show (tV cd L (pEq cd L s.1 + 1) (U 1) (U 2) ((rpS9 cd L s).1 - (pEq cd L s.1 + 1))).2.1 = _
    rw [hpe]
    exact hE1.1
  have hT : TT Y (pTU U cd L s.1 (rpS9 cd L s).1) (pyN cd L s) := by
    refine ⟨hYn, hN9, fun j hj hj2 => ?_, hGd⟩
    show tTu U cd L (pEq cd L s.1 + 1) (rpS9 cd L s).1 1 j = _
    rw [tTu_v, hpe]
    exact hE1.2.2.1 j hj hj2
  have hb := pBt_T hf20 (show 20 < 2 ^ 31 by decide)
  have hTW : pTW S (tlF S) U cd L s.1 (rpS9 cd L s).1 = mWT Y (pyFi cd L s) (pyN cd L s) := by
    show pRA S (tlF S) (pTU U cd L s.1 (rpS9 cd L s).1) (pTN U cd L s.1 (rpS9 cd L s).1) (nOf (pTx cd L s.1)) = _
    rw [hnt, hTx, nOf_n (by omega)]
    exact pRA_eq hR hI hT hf20
  rw [← hTx] at hb
  rw [e1, e2, e3, pPP_e S (tlF S) O U K cd L s.1 (rpS9 cd L s).1 ⟨h119, h33, h107, h116⟩]
  have hok : pOK cd L s.1 (rpS9 cd L s).1 := Or.inr (Or.inr (Or.inr ⟨⟨h119, h33, h107, h116⟩, by rw [hpe]; exact hEge⟩))
  by_cases h0 : pTW S (tlF S) U cd L s.1 (rpS9 cd L s).1 = 0
  · rw [pTea_3 S (tlF S) U K cd L s.1 (rpS9 cd L s).1 hb h0]
    rw [hTW] at h0
    refine ⟨hTW, fun _ => ?_, fun z => absurd (hTW.trans h0) z, hok⟩
    show RS (pLn S (pTU U cd L s.1 (rpS9 cd L s).1) (nOf (pTx cd L s.1)) (pTN U cd L s.1 (rpS9 cd L s).1)) _ ∧ SI (B + 1) (pLn S (pTU U cd L s.1 (rpS9 cd L s).1) (nOf (pTx cd L s.1)) (pTN U cd L s.1 (rpS9 cd L s).1)) ∧ _
    rw [hnt, hTx, nOf_n (by omega)]
    obtain ⟨w1, -⟩ := wt_0 hT h0
    exact ⟨hR.teach hI hf20 w1.2 (fun j hj => hT.2.2.1 j (by omega) hj), (SI.teach hR hI hf20 hT h0).mono (Nat.le_succ B), nI_pos (by omega)⟩
  · rw [pTea_2 S (tlF S) U K cd L s.1 (rpS9 cd L s).1 hb h0]
    exact ⟨hTW, fun z => absurd z h0, fun _ => rfl, hok⟩
end PEQ
