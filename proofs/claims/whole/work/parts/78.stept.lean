/-! calls of class and reference that read texts, alike (printed by wip/whole/mkst.py) -/
/-- a tune text read: what both know of it -/
theorem tu_TT {cd : Nat → Nat} {n : Nat} {Z U : Nat → Nat → Int32} (hc : ∀ i : Nat, i < n → cd i < 127) (h : tuB cd n Z = true) : ntT cd n U = tuN cd n Z ∧ TT (tuZ cd n Z) (tTu U cd n 0 n) (tuN cd n Z) := by
  have hE := tu_end (cd := cd) (L := n) (a := 0) (st := 4) (ev := false) (U 1) (U 2) (Z 13) (Z 15) hc (Nat.zero_le n) rfl
  have hI := rtE_I (cd := cd) (L := n) (a := 0) (t := Z 13) (o := Z 15) (Nat.zero_le n)
  have hG := rtE_Gd (cd := cd) (L := n) (a := 0) (Z 13) (Z 15) hc (Nat.zero_le n)
  unfold tuB at h
  rw [Bool.and_eq_true, decide_eq_true_eq] at h
  obtain ⟨b1, b2⟩ := h
  have hN := (hE.1 b1).2.1
  rw [b2] at hN
  exact ⟨hN.1, rfl, hI.2.1, hN.2.2.1, hG⟩
/-- the tune's length stays small in the midst of an evening -/
theorem py0_I {cd : Nat → Nat} {L : Nat} {Z : Nat → Nat → Int32} (h : FEI (zFE Z 0)) : FEI (py0 cd L Z (zFE Z 0)).1 ∧ (py0 cd L Z (zFE Z 0)).1.1 ≤ L + 1 := ⟨rp_I (cd := cd) (L := L) (s := fe cd L (zFE Z 0) L) (fe_le (s0 := zFE Z 0) (Nat.zero_le L) L) (fe_I (s0 := zFE Z 0) (Nat.zero_le L) h L), Nat.zero_le _⟩
theorem py_I {cd : Nat → Nat} {L : Nat} {Z : Nat → Nat → Int32} {sv : Nat} {y0 : PY} (h : FEI y0.1 ∧ y0.1.1 ≤ L + 1) (k : Nat) : FEI (py cd L Z sv y0 k).1 := by
  have h9 : FEI (py cd L Z sv y0 k).1 ∧ (py cd L Z sv y0 k).1.1 ≤ L + 1 := by
    induction k with
    | zero => exact h
    | succ k ih =>
      show FEI (pyS cd L Z sv (py cd L Z sv y0 k)).1 ∧ (pyS cd L Z sv (py cd L Z sv y0 k)).1.1 ≤ L + 1
      generalize py cd L Z sv y0 k = s at ih ⊢
      have key : s.2.2.2 = 0 ∧ s.1.1 < L → FEI (((rpS9 cd L s.1).1 + 1, (rpS9 cd L s.1).2) : FE) ∧ (rpS9 cd L s.1).1 + 1 ≤ L + 1 := fun hc => ⟨rp_I (cd := cd) (Nat.le_of_lt hc.2) ih.1, Nat.succ_le_succ (rp_le (Nat.le_of_lt hc.2))⟩
      unfold pyS
      by_cases hc : s.2.2.2 = 0 ∧ s.1.1 < L
      · rw [if_pos hc]
        split
        · split
          · exact key hc
          · exact key hc
        · exact key hc
      · rw [if_neg hc]; exact ih
  exact h9.1
set_option maxHeartbeats 4000000 in
theorem st_teach (l : Launch) (hst : l.stackTraces = false) (G : va_G) (T : Nat → ClassId) (a : CA) (ao : Nat) (q8 : Nat → Nat) {B : Nat} (hB : B + 100 < 2 ^ 27) (f : Nat → Int64) (c : CC) (Z : Nat → Nat → Int32) (x : Int32) (hJ : JX B c Z) : STp l G T a ao q8 yL_teach wsL_teach yX8_teach wsX8_teach 6 [.ref (a.1 0), .int x, .ref ao] [.ref (q8 0), .int x] B f c Z := by
  obtain ⟨w, q, qz, h, qs, t, gr, u, tr, oc⟩ := a
  obtain ⟨Sw, S, Zs, Sh, Hs, X, Gg, U, K, O⟩ := c
  obtain ⟨o, nh, n, cd, hJ⟩ := hJ
  have hJ : JI B Sw S Zs Sh Hs X Z o nh n cd := hJ
  have hJ0 := hJ
  obtain ⟨⟨hR, hI⟩, ⟨ho, hnh, ho6, hn6, hsv, hH⟩, hsnap, ⟨hlen, hle, hn60, hcd, hcd7, hc127⟩, h13⟩ := hJ
  have hT0 : JT X Z n cd := ⟨hlen, hle, hn60, hcd, hcd7, hc127⟩
  have htl : ∀ i : Nat, i < 20 → S 6 i = nI (tlF S i) := fun i hi => (ln_eq hR hI hi).2.2
  have htl8 : ∀ i : Nat, i < 20 → tlF S i ≤ 8 := fun i hi => (ln_eq hR hI hi).2.1
  have hbt : bT cd n = tuB cd n Z := tu_bT (Z 13) (Z 15) hc127
  have hIv := rtE_I (cd := cd) (L := n) (a := 0) (t := Z 13) (o := Z 15) (Nat.zero_le n)
  have h13t : nI (rtE cd n 0 (Z 13) (Z 15)).1.2.1 = nI (nOf (nI (rtE cd n 0 (Z 13) (Z 15)).1.2.1)) ∧ nOf (nI (rtE cd n 0 (Z 13) (Z 15)).1.2.1) ≤ 9 := good13 hIv.2.1
  cases hx : pBt x 20 with
  | false =>
    refine ⟨_, _, _, _, _, _, ?_, fun sz => c_L_teach_t l hst G T sz ao f w q qz h qs t gr u tr oc Sw S Zs Sh Hs X Gg U K O x hx, fun sz g => c_X8_teach_1 l G T sz q8 Z g x (by rw [wi20 x]; exact hx), rfl, ?_, ?_⟩
    · decide
    · exact fun z => absurd z (by decide)
    · exact ⟨o, nh, n, cd, hJ0.keep rfl rfl rfl rfl rfl (hT0.same rfl rfl) h13⟩
  | true =>
    obtain ⟨mm, hm, emm⟩ := pBt_N hx (by decide)
    subst emm
    cases hb : bT cd n with
    | false =>
      refine ⟨_, _, _, _, _, _, ?_, fun sz => c_L_teach_t2 l hst G T sz ao f w q qz h qs t gr u tr oc Sw S Zs Sh Hs X Gg U K O n cd mm hlen hn60 hcd hc127 hm hb, fun sz g => c_X8_teach_2 l G T sz q8 Z g n cd mm hle hcd7 hc127 hn60 hm (by rw [← hbt]; exact hb), rfl, ?_, ?_⟩
      · decide
      · exact fun z => absurd z (by decide)
      · exact ⟨o, nh, n, cd, hJ0.keep rfl rfl rfl rfl rfl (hT0.same rfl rfl) h13t⟩
    | true =>
      have hT := tu_TT (U := U) hc127 (show tuB cd n Z = true by rw [← hbt]; exact hb)
      have hN : ntT cd n U = tuN cd n Z := hT.1
      have hU : rTu U cd n = tTu U cd n 0 n := rTu_1 U hb
      have hTT : TT (tuZ cd n Z) (rTu U cd n) (tuN cd n Z) := by rw [hU]; exact hT.2
      have hra := pRA_eq (S := S) (Z := tuZ cd n Z) (m := mm) hR hI hTT hm
      rw [← hN] at hra
      by_cases h0 : pRA S (tlF S) (rTu U cd n) (ntT cd n U) mm = nI 0
      · have hw0 : mWT (tuZ cd n Z) mm (tuN cd n Z) = 0 := by
          rw [← hN, ← hra]
          exact h0
        obtain ⟨w1, -⟩ := wt_0 hTT hw0
        have hR2 := RS.teach (Y := tuZ cd n Z) (U := rTu U cd n) (nt := tuN cd n Z) (t := (rtE cd n 0 (Z 13) (Z 15)).1.2.2) hR hI hm w1.2 (fun j hj => hTT.2.2.1 j (by omega) hj)
        have hI2 := SI.teach (Y := tuZ cd n Z) hR hI hm hTT hw0
        rw [← hN] at hR2 hI2
        have hR3 : RS (pLn S (rTu U cd n) mm (ntT cd n U)) (mTcF (Z 2) (rtE cd n 0 (Z 13) (Z 15)).1.2.2 mm (tuN cd n Z) 8) := by
          rw [← hN]
          exact hR2
        refine ⟨_, _, _, _, _, _, ?_, fun sz => c_L_teach l hst G T sz ao f w q qz h qs t gr u tr oc Sw S Zs Sh Hs X Gg U K O n cd (tlF S) o nh mm hlen hn60 hcd hc127 htl htl8 ho hnh ho6 hn6 hm hb h0, fun sz g => c_X8_teach l G T sz q8 Z g n cd mm nh hle hcd7 hc127 hn60 hm hsv hn6 (by rw [← hbt]; exact hb) hw0, rfl, ?_, ?_⟩
        · decide
        · exact fun _ => (updL_at f _).trans (congrArg Int32.toInt64 (congrArg nI hN))
        · exact ⟨hPo o nh, hPn nh, 0, cd, hJ0.op hR3 (hI2.mono (by omega)) rfl rfl rfl rfl (JT.zero (cd := cd) rfl rfl) h13t⟩
      · have hw0 : ¬ mWT (tuZ cd n Z) mm (tuN cd n Z) = 0 := by
          rw [← hN, ← hra]
          exact h0
        refine ⟨_, _, _, _, _, _, ?_, fun sz => c_L_teach_t3 l hst G T sz ao f w q qz h qs t gr u tr oc Sw S Zs Sh Hs X Gg U K O n cd (tlF S) mm hlen hn60 hcd hc127 htl htl8 hm hb h0, fun sz g => c_X8_teach_3 l G T sz q8 Z g n cd mm hle hcd7 hc127 hn60 hm (by rw [← hbt]; exact hb) hw0, rfl, ?_, ?_⟩
        · decide
        · exact fun z => absurd z (by decide)
        · exact ⟨o, nh, n, cd, hJ0.keep rfl rfl rfl rfl rfl (hT0.same rfl rfl) h13t⟩
set_option maxHeartbeats 4000000 in
theorem st_keyOf (l : Launch) (hst : l.stackTraces = false) (G : va_G) (T : Nat → ClassId) (a : CA) (ao : Nat) (q8 : Nat → Nat) {B : Nat} (hB : B + 100 < 2 ^ 27) (f : Nat → Int64) (c : CC) (Z : Nat → Nat → Int32) (hJ : JX B c Z) : STp l G T a ao q8 yL_keyOf wsL_keyOf yX8_keyOf wsX8_keyOf 6 [.ref (a.1 0), .ref ao] [.ref (q8 0)] B f c Z := by
  obtain ⟨w, q, qz, h, qs, t, gr, u, tr, oc⟩ := a
  obtain ⟨Sw, S, Zs, Sh, Hs, X, Gg, U, K, O⟩ := c
  obtain ⟨o, nh, n, cd, hJ⟩ := hJ
  have hJ : JI B Sw S Zs Sh Hs X Z o nh n cd := hJ
  have hJ0 := hJ
  obtain ⟨⟨hR, hI⟩, ⟨ho, hnh, ho6, hn6, hsv, hH⟩, hsnap, ⟨hlen, hle, hn60, hcd, hcd7, hc127⟩, h13⟩ := hJ
  have hT0 : JT X Z n cd := ⟨hlen, hle, hn60, hcd, hcd7, hc127⟩
  have htl : ∀ i : Nat, i < 20 → S 6 i = nI (tlF S i) := fun i hi => (ln_eq hR hI hi).2.2
  have htl8 : ∀ i : Nat, i < 20 → tlF S i ≤ 8 := fun i hi => (ln_eq hR hI hi).2.1
  have hbt : bT cd n = tuB cd n Z := tu_bT (Z 13) (Z 15) hc127
  have hIv := rtE_I (cd := cd) (L := n) (a := 0) (t := Z 13) (o := Z 15) (Nat.zero_le n)
  have h13t : nI (rtE cd n 0 (Z 13) (Z 15)).1.2.1 = nI (nOf (nI (rtE cd n 0 (Z 13) (Z 15)).1.2.1)) ∧ nOf (nI (rtE cd n 0 (Z 13) (Z 15)).1.2.1) ≤ 9 := good13 hIv.2.1
  cases hb : bT cd n with
  | false =>
    refine ⟨_, _, _, _, _, _, ?_, fun sz => c_L_keyOf_t l hst G T sz ao f w q qz h qs t gr u tr oc Sw S Zs Sh Hs X Gg U K O n cd hlen hn60 hcd hc127 hb, fun sz g => c_X8_keyOf_1 l G T sz q8 Z g n cd hle hcd7 hc127 hn60 (by rw [← hbt]; exact hb), rfl, ?_, ?_⟩
    · decide
    · exact fun z => absurd z (by decide)
    · exact ⟨o, nh, n, cd, hJ0.keep rfl rfl rfl rfl rfl (hT0.same rfl rfl) h13t⟩
  | true =>
    have hT := tu_TT (U := U) hc127 (show tuB cd n Z = true by rw [← hbt]; exact hb)
    have hN : ntT cd n U = tuN cd n Z := hT.1
    have hU : rTu U cd n = tTu U cd n 0 n := rTu_1 U hb
    have hTT : TT (tuZ cd n Z) (rTu U cd n) (tuN cd n Z) := by rw [hU]; exact hT.2
    have he := pKO_eq (S := S) (Z := tuZ cd n Z) hR hI hTT
    rw [← hN] at he
    refine ⟨_, _, _, _, _, _, ?_, fun sz => c_L_keyOf l hst G T sz ao f w q qz h qs t gr u tr oc Sw S Zs Sh Hs X Gg U K O n cd (tlF S) hlen hn60 hcd hc127 htl htl8 hb, fun sz g => c_X8_keyOf l G T sz q8 Z g n cd hle hcd7 hc127 hn60 (by rw [← hbt]; exact hb), rfl, ?_, ?_⟩
    · decide
    · refine fun _ => (updL_at f _).trans (congrArg Int32.toInt64 ?_)
      rw [← hN]
      exact he
    · exact ⟨o, nh, n, cd, hJ0.keep rfl rfl rfl rfl rfl (hT0.same rfl rfl) h13t⟩
set_option maxHeartbeats 4000000 in
theorem st_decode (l : Launch) (hst : l.stackTraces = false) (G : va_G) (T : Nat → ClassId) (a : CA) (ao : Nat) (q8 : Nat → Nat) {B : Nat} (hB : B + 100 < 2 ^ 27) (f : Nat → Int64) (c : CC) (Z : Nat → Nat → Int32) (x y : Int32) (hJ : JX B c Z) : STp l G T a ao q8 yL_decode wsL_decode yX8_decode wsX8_decode 6 [.ref (a.1 0), .int x, .int y, .ref ao] [.ref (q8 0), .int x, .int y] B f c Z := by
  obtain ⟨w, q, qz, h, qs, t, gr, u, tr, oc⟩ := a
  obtain ⟨Sw, S, Zs, Sh, Hs, X, Gg, U, K, O⟩ := c
  obtain ⟨o, nh, n, cd, hJ⟩ := hJ
  have hJ : JI B Sw S Zs Sh Hs X Z o nh n cd := hJ
  have hJ0 := hJ
  obtain ⟨⟨hR, hI⟩, ⟨ho, hnh, ho6, hn6, hsv, hH⟩, hsnap, ⟨hlen, hle, hn60, hcd, hcd7, hc127⟩, h13⟩ := hJ
  have hT0 : JT X Z n cd := ⟨hlen, hle, hn60, hcd, hcd7, hc127⟩
  have htl : ∀ i : Nat, i < 20 → S 6 i = nI (tlF S i) := fun i hi => (ln_eq hR hI hi).2.2
  have htl8 : ∀ i : Nat, i < 20 → tlF S i ≤ 8 := fun i hi => (ln_eq hR hI hi).2.1
  have hbt : bT cd n = tuB cd n Z := tu_bT (Z 13) (Z 15) hc127
  have hIv := rtE_I (cd := cd) (L := n) (a := 0) (t := Z 13) (o := Z 15) (Nat.zero_le n)
  have h13t : nI (rtE cd n 0 (Z 13) (Z 15)).1.2.1 = nI (nOf (nI (rtE cd n 0 (Z 13) (Z 15)).1.2.1)) ∧ nOf (nI (rtE cd n 0 (Z 13) (Z 15)).1.2.1) ≤ 9 := good13 hIv.2.1
  cases hx : pBt x 7 with
  | false =>
    refine ⟨_, _, _, _, _, _, ?_, fun sz => c_L_decode_t l hst G T sz ao f w q qz h qs t gr u tr oc Sw S Zs Sh Hs X Gg U K O x y hx, fun sz g => c_X8_decode_1 l G T sz q8 Z g n cd x y hle hcd7 hc127 hn60 (by rw [wi7 x, hx, Bool.false_and, Bool.and_false]), rfl, ?_, ?_⟩
    · decide
    · exact fun z => absurd z (by decide)
    · exact ⟨o, nh, n, cd, hJ0.keep rfl rfl rfl rfl rfl (hT0.same rfl rfl) h13t⟩
  | true =>
    obtain ⟨kk, hk, ekk⟩ := pBt_N hx (by decide)
    subst ekk
    cases hy : pBt y 2 with
    | false =>
      refine ⟨_, _, _, _, _, _, ?_, fun sz => c_L_decode_t2 l hst G T sz ao f w q qz h qs t gr u tr oc Sw S Zs Sh Hs X Gg U K O kk y hk hy, fun sz g => c_X8_decode_1 l G T sz q8 Z g n cd (nI kk) y hle hcd7 hc127 hn60 (by rw [wi2 y, hy, Bool.and_false, Bool.and_false]), rfl, ?_, ?_⟩
      · decide
      · exact fun z => absurd z (by decide)
      · exact ⟨o, nh, n, cd, hJ0.keep rfl rfl rfl rfl rfl (hT0.same rfl rfl) h13t⟩
    | true =>
      obtain ⟨ww, hw, eww⟩ := pBt_N hy (by decide)
      subst eww
      cases hb : bT cd n with
      | false =>
        refine ⟨_, _, _, _, _, _, ?_, fun sz => c_L_decode_t3 l hst G T sz ao f w q qz h qs t gr u tr oc Sw S Zs Sh Hs X Gg U K O n cd kk ww hlen hn60 hcd hc127 hk (by omega) hb, fun sz g => c_X8_decode_1 l G T sz q8 Z g n cd (nI kk) (nI ww) hle hcd7 hc127 hn60 (by rw [← hbt, hb, Bool.false_and]), rfl, ?_, ?_⟩
        · decide
        · exact fun z => absurd z (by decide)
        · exact ⟨o, nh, n, cd, hJ0.keep rfl rfl rfl rfl rfl (hT0.same rfl rfl) h13t⟩
      | true =>
        have hT := tu_TT (U := U) hc127 (show tuB cd n Z = true by rw [← hbt]; exact hb)
        have hN : ntT cd n U = tuN cd n Z := hT.1
        have hU : rTu U cd n = tTu U cd n 0 n := rTu_1 U hb
        have hTT : TT (tuZ cd n Z) (rTu U cd n) (tuN cd n Z) := by rw [hU]; exact hT.2
        have he0 := pDT_eq (S := S) (Z := tuZ cd n Z) hR hI hTT hk
        have he1 := pDM_eq (S := S) (Z := tuZ cd n Z) hR hI hTT hk
        rw [← hN] at he0 he1
        rcases (show ww = 0 ∨ ww = 1 by omega) with rfl | rfl
        · skip
          refine ⟨_, _, _, _, _, _, ?_, fun sz => c_L_decode_0 l hst G T sz ao f w q qz h qs t gr u tr oc Sw S Zs Sh Hs X Gg U K O n cd (tlF S) kk hlen hn60 hcd hc127 htl htl8 hk hb, fun sz g => c_X8_decode l G T sz q8 Z g n cd kk 0 hle hcd7 hc127 hn60 (by rw [← hbt]; exact hb) hk (by decide), rfl, ?_, ?_⟩
          · decide
          · refine fun _ => (updL_at f _).trans (congrArg Int32.toInt64 ?_)
            rw [← hN]
            exact he0
          · exact ⟨o, nh, n, cd, hJ0.keep rfl rfl rfl rfl rfl (hT0.same rfl rfl) h13t⟩
        · skip
          refine ⟨_, _, _, _, _, _, ?_, fun sz => c_L_decode_1 l hst G T sz ao f w q qz h qs t gr u tr oc Sw S Zs Sh Hs X Gg U K O n cd (tlF S) kk hlen hn60 hcd hc127 htl htl8 hk hb, fun sz g => c_X8_decode l G T sz q8 Z g n cd kk 1 hle hcd7 hc127 hn60 (by rw [← hbt]; exact hb) hk (by decide), rfl, ?_, ?_⟩
          · decide
          · refine fun _ => (updL_at f _).trans (congrArg Int32.toInt64 ?_)
            rw [← hN]
            exact he1
          · exact ⟨o, nh, n, cd, hJ0.keep rfl rfl rfl rfl rfl (hT0.same rfl rfl) h13t⟩
set_option maxHeartbeats 4000000 in
theorem st_play (l : Launch) (hst : l.stackTraces = false) (G : va_G) (T : Nat → ClassId) (a : CA) (ao : Nat) (q8 : Nat → Nat) {B : Nat} (hB : B + 100 < 2 ^ 27) (f : Nat → Int64) (c : CC) (Z : Nat → Nat → Int32) (hJ : JX B c Z) : STp l G T a ao q8 yL_play wsL_play yX8_play wsX8_play 7 [.ref (a.1 0), .ref ao] [.ref (q8 0)] B f c Z := by
  obtain ⟨w, q, qz, h, qs, t, gr, u, tr, oc⟩ := a
  obtain ⟨Sw, S, Zs, Sh, Hs, X, Gg, U, K, O⟩ := c
  obtain ⟨o, nh, n, cd, hJ⟩ := hJ
  have hJ : JI B Sw S Zs Sh Hs X Z o nh n cd := hJ
  have hJ0 := hJ
  obtain ⟨⟨hR, hI⟩, ⟨ho, hnh, ho6, hn6, hsv, hH⟩, hsnap, ⟨hlen, hle, hn60, hcd, hcd7, hc127⟩, h13⟩ := hJ
  have hT0 : JT X Z n cd := ⟨hlen, hle, hn60, hcd, hcd7, hc127⟩
  have hend := fe_end (cd := cd) (L := n) (s0 := zFE Z 0) hn60 hc127 (Nat.zero_le n) rfl
  have h13n : Z 0 13 = nI (nOf (Z 0 13)) := h13.1
  by_cases hfv : feV cd n (fe cd n (zFE Z 0) n) = -1
  · obtain ⟨hE, hM⟩ := hend.1 hfv
    have hEn : gEn cd n 1 true = n := if_neg (by omega)
    have hpl := play_eq (cd := cd) (L := n) hn60 hc127 hE hM (Z := Z) (sv := nh) (B := B) (fs := zFE Z 0) (s0 := ((S, O, U, K), nI 0, nI 0, 0)) rfl rfl rfl (by omega) hR hI
    obtain ⟨hCV, hans, hRp, hIp⟩ := hpl
    have hSI : ∀ k : Nat, k ≤ n → SI (B + k) (pl cd n ((S, O, U, K), nI 0, nI 0, 0) k).1.1 := fun k hk => (hCV k (by omega)).1
    have hokS : ∀ k i : Nat, k ≤ n → i < 20 → (pl cd n ((S, O, U, K), nI 0, nI 0, 0) k).1.1 6 i = nI (tlF (pl cd n ((S, O, U, K), nI 0, nI 0, 0) k).1.1 i) := fun k i hk hi => ((hSI k hk).2.2.2.2.2.2.1 i hi).1.1
    have htl8s : ∀ k i : Nat, k ≤ n → i < 20 → tlF (pl cd n ((S, O, U, K), nI 0, nI 0, 0) k).1.1 i ≤ 8 := fun k i hk hi => ((hSI k hk).2.2.2.2.2.2.1 i hi).1.2.1
    have hE2 : ¬ (gS cd n 1 true n).1 = 0 := by
      intro z
      rw [z] at hM
      have hM := of_decide_eq_true hM
      omega
    have hpk : ∀ k : Nat, k ≤ n → (pl cd n ((S, O, U, K), nI 0, nI 0, 0) k).2.1 = 0 → (k = n ∨ pAt cd n k = 44) → pOK cd n (pl cd n ((S, O, U, K), nI 0, nI 0, 0) k).2.2.2 k := by
      intro k hk hr hx
      obtain ⟨c1, c2, j, c3, c4, c5, c6, c7⟩ := hCV k (by omega)
      obtain ⟨d1, d2, d3, -⟩ := c2 hr
      have hy1 := c7 hr
      obtain ⟨q1, q2, q3, -⟩ := cv_q (s := (py cd n Z nh (py0 cd n Z (zFE Z 0)) j).1) hc127 hE2 hM hk (by rw [hy1]; exact d1) (by rw [hy1]; exact d2 (by omega)) (by rw [hy1]; exact d3) hx
      have hP := part_eq (B := B + k) hn60 hc127 c6 c1 (by omega) (s := (py cd n Z nh (py0 cd n Z (zFE Z 0)) j).1) (by omega) (by rw [hy1]; exact d2 (by omega)) q1 Z nh O U K
      have h9 := hP.2.2.2
      rw [q2, hy1] at h9
      exact h9
    have haas : ∀ k : Nat, k ≤ n → (pl cd n ((S, O, U, K), nI 0, nI 0, 0) k).2.1 = 0 → (k = n ∨ pAt cd n k = 44) → (pl cd n ((S, O, U, K), nI 0, nI 0, 0) k).2.2.2 ≤ 60 := by
      intro k hk hr hx
      have := ((hCV k (by omega)).2.1 hr).1
      omega
    have hfin : (py cd n Z nh (py0 cd n Z (zFE Z 0)) (n + 1)).1.2.2.2.2.1 = nI (nOf (py cd n Z nh (py0 cd n Z (zFE Z 0)) (n + 1)).1.2.2.2.2.1) ∧ nOf (py cd n Z nh (py0 cd n Z (zFE Z 0)) (n + 1)).1.2.2.2.2.1 ≤ 9 := py_I (Z := Z) (sv := nh) (py0_I (cd := cd) (L := n) (Z := Z) ⟨h13.1, h13.2⟩) (n + 1)
    refine ⟨_, _, _, _, _, _, ?_, fun sz => c_L_play l hst G T sz ao f w q qz h qs t gr u tr oc Sw S Zs Sh Hs X Gg U K O n cd o nh hlen hn60 hcd hc127 ho hnh ho6 hn6 (by omega) (by rw [hEn]; exact hM) hokS htl8s hpk haas, fun sz g => c_X8_play l G T sz q8 Z g n cd (zFE Z 0) nh (nOf (Z 0 13)) hle hcd7 hc127 hn60 rfl hsv hn6 h13n h13.2 hfv, rfl, ?_, ?_⟩
    · decide
    · exact fun _ => (updL_at f _).trans (congrArg Int32.toInt64 (hans.symm))
    · exact ⟨hPo o nh, hPn nh, 0, cd, hJ0.op hRp hIp rfl rfl rfl rfl (JT.zero (cd := cd) rfl rfl) hfin⟩
  · obtain ⟨-, hno⟩ := hend.2 hfv
    have hEn : n ≤ gEr cd n 1 true → gEn cd n 1 true = n := fun z => if_neg (by omega)
    have hle9 := gEr_le cd n 1 true
    have hfin : (rpS9 cd n (fe cd n (zFE Z 0) n)).2.2.2.2.1 = nI (nOf (rpS9 cd n (fe cd n (zFE Z 0) n)).2.2.2.2.1) ∧ nOf (rpS9 cd n (fe cd n (zFE Z 0) n)).2.2.2.2.1 ≤ 9 := rp_I (cd := cd) (L := n) (s := fe cd n (zFE Z 0) n) (fe_le (s0 := zFE Z 0) (Nat.zero_le n) n) (fe_I (s0 := zFE Z 0) (Nat.zero_le n) ⟨h13.1, h13.2⟩ n)
    refine ⟨_, _, _, _, _, _, ?_, fun sz => c_L_play_t l hst G T sz ao f w q qz h qs t gr u tr oc Sw S Zs Sh Hs X Gg U K O n cd hlen hn60 hcd hc127 (fun z => hno ⟨by have := z.1; omega, by rw [hEn z.1] at z; exact z.2⟩), fun sz g => c_X8_play_0 l G T sz q8 Z g n cd (zFE Z 0) hle hcd7 hc127 hn60 rfl hfv, rfl, ?_, ?_⟩
    · decide
    · exact fun z => absurd z (by decide)
    · exact ⟨o, nh, n, cd, hJ0.keep rfl rfl rfl rfl rfl (hT0.same rfl rfl) hfin⟩
