/-! calls of class and reference, alike (printed by wip/whole/mkst.py) -/
set_option maxHeartbeats 4000000 in
theorem st_forget (l : Launch) (hst : l.stackTraces = false) (G : va_G) (T : Nat → ClassId) (a : CA) (ao : Nat) (q8 : Nat → Nat) {B : Nat} (hB : B + 100 < 2 ^ 27) (f : Nat → Int64) (c : CC) (Z : Nat → Nat → Int32) (x : Int32) (hJ : JX B c Z) : STp l G T a ao q8 yL_forget wsL_forget yX8_forget wsX8_forget 6 [.ref (a.1 0), .int x, .ref ao] [.ref (q8 0), .int x] B f c Z := by
  obtain ⟨w, q, qz, h, qs, t, gr, u, tr, oc⟩ := a
  obtain ⟨Sw, S, Zs, Sh, Hs, X, Gg, U, K, O⟩ := c
  obtain ⟨o, nh, n, cd, hJ⟩ := hJ
  have hJ : JI B Sw S Zs Sh Hs X Z o nh n cd := hJ
  have hJ0 := hJ
  obtain ⟨⟨hR, hI⟩, ⟨ho, hnh, ho6, hn6, hsv, hH⟩, hsnap, ⟨hlen, hle, hn60, hcd, hcd7, hc127⟩, h13⟩ := hJ
  have hT0 : JT X Z n cd := ⟨hlen, hle, hn60, hcd, hcd7, hc127⟩
  cases hx : pBt x 20 with
  | false =>
    refine ⟨_, _, _, _, _, _, ?_, fun sz => c_L_forget_t l hst G T sz ao f w q qz h qs t gr u tr oc Sw S Zs Sh Hs X Gg U K O x hx, fun sz g => c_X8_forget_1 l G T sz q8 Z g x (by rw [wi20 x]; exact hx), rfl, ?_, ?_⟩
    · decide
    · exact fun z => absurd z (by decide)
    · exact ⟨o, nh, n, cd, hJ0.keep rfl rfl rfl rfl rfl (hT0.same rfl rfl) h13⟩
  | true =>
    obtain ⟨mm, hm, emm⟩ := pBt_N hx (by decide)
    subst emm
    refine ⟨_, _, _, _, _, _, ?_, fun sz => c_L_forget l hst G T sz ao f w q qz h qs t gr u tr oc Sw S Zs Sh Hs X Gg U K O o nh mm ho hnh ho6 hn6 hm, fun sz g => c_X8_forget l G T sz q8 Z g mm nh hm hsv hn6, rfl, ?_, ?_⟩
    · decide
    · exact fun _ => (updL_at f _).trans (congrArg Int32.toInt64 ((hR.2.2.1 mm hm).1.trans (zadd32 _).symm))
    · exact ⟨hPo o nh, hPn nh, n, cd, hJ0.op (hR.forget hI hm (Z 13)) ((hI.forget mm).mono (by omega)) rfl rfl rfl rfl (hT0.same rfl rfl) (good13 (by decide))⟩
set_option maxHeartbeats 4000000 in
theorem st_key (l : Launch) (hst : l.stackTraces = false) (G : va_G) (T : Nat → ClassId) (a : CA) (ao : Nat) (q8 : Nat → Nat) {B : Nat} (hB : B + 100 < 2 ^ 27) (f : Nat → Int64) (c : CC) (Z : Nat → Nat → Int32) (x : Int32) (hJ : JX B c Z) : STp l G T a ao q8 yL_key wsL_key yX8_key wsX8_key 6 [.ref (a.1 0), .int x, .ref ao] [.ref (q8 0), .int x] B f c Z := by
  obtain ⟨w, q, qz, h, qs, t, gr, u, tr, oc⟩ := a
  obtain ⟨Sw, S, Zs, Sh, Hs, X, Gg, U, K, O⟩ := c
  obtain ⟨o, nh, n, cd, hJ⟩ := hJ
  have hJ : JI B Sw S Zs Sh Hs X Z o nh n cd := hJ
  have hJ0 := hJ
  obtain ⟨⟨hR, hI⟩, ⟨ho, hnh, ho6, hn6, hsv, hH⟩, hsnap, ⟨hlen, hle, hn60, hcd, hcd7, hc127⟩, h13⟩ := hJ
  have hT0 : JT X Z n cd := ⟨hlen, hle, hn60, hcd, hcd7, hc127⟩
  cases hx : pBt x 7 with
  | false =>
    refine ⟨_, _, _, _, _, _, ?_, fun sz => c_L_key_t l hst G T sz ao f w q qz h qs t gr u tr oc Sw S Zs Sh Hs X Gg U K O x hx, fun sz g => c_X8_key_1 l G T sz q8 Z g x (by rw [wi7 x]; exact hx), rfl, ?_, ?_⟩
    · decide
    · exact fun z => absurd z (by decide)
    · exact ⟨o, nh, n, cd, hJ0.keep rfl rfl rfl rfl rfl (hT0.same rfl rfl) h13⟩
  | true =>
    obtain ⟨kk, hk, ekk⟩ := pBt_N hx (by decide)
    subst ekk
    refine ⟨_, _, _, _, _, _, ?_, fun sz => c_L_key l hst G T sz ao f w q qz h qs t gr u tr oc Sw S Zs Sh Hs X Gg U K O o nh kk ho hnh ho6 hn6 hk, fun sz g => c_X8_key l G T sz q8 Z g kk nh hk hsv hn6, rfl, ?_, ?_⟩
    · decide
    · exact fun _ => (updL_at f _).trans (congrArg Int32.toInt64 (hR.1.2.1))
    · exact ⟨hPo o nh, hPn nh, n, cd, hJ0.op (hR.key (nI kk)) ((hI.key hk).mono (by omega)) rfl rfl rfl rfl (hT0.same rfl rfl) h13⟩
set_option maxHeartbeats 4000000 in
theorem st_tell (l : Launch) (hst : l.stackTraces = false) (G : va_G) (T : Nat → ClassId) (a : CA) (ao : Nat) (q8 : Nat → Nat) {B : Nat} (hB : B + 100 < 2 ^ 27) (f : Nat → Int64) (c : CC) (Z : Nat → Nat → Int32) (x : Int32) (hJ : JX B c Z) : STp l G T a ao q8 yL_tell wsL_tell yX8_tell wsX8_tell 6 [.ref (a.1 0), .int x, .ref ao] [.ref (q8 0), .int x] B f c Z := by
  obtain ⟨w, q, qz, h, qs, t, gr, u, tr, oc⟩ := a
  obtain ⟨Sw, S, Zs, Sh, Hs, X, Gg, U, K, O⟩ := c
  obtain ⟨o, nh, n, cd, hJ⟩ := hJ
  have hJ : JI B Sw S Zs Sh Hs X Z o nh n cd := hJ
  have hJ0 := hJ
  obtain ⟨⟨hR, hI⟩, ⟨ho, hnh, ho6, hn6, hsv, hH⟩, hsnap, ⟨hlen, hle, hn60, hcd, hcd7, hc127⟩, h13⟩ := hJ
  have hT0 : JT X Z n cd := ⟨hlen, hle, hn60, hcd, hcd7, hc127⟩
  cases hx : pBt x 6 with
  | false =>
    refine ⟨_, _, _, _, _, _, ?_, fun sz => c_L_tell_t l hst G T sz ao f w q qz h qs t gr u tr oc Sw S Zs Sh Hs X Gg U K O x hx, fun sz g => c_X8_tell_1 l G T sz q8 Z g x (by rw [wi6 x]; exact hx), rfl, ?_, ?_⟩
    · decide
    · exact fun z => absurd z (by decide)
    · exact ⟨o, nh, n, cd, hJ0.keep rfl rfl rfl rfl rfl (hT0.same rfl rfl) h13⟩
  | true =>
    obtain ⟨rr, hr, err⟩ := pBt_N hx (by decide)
    subst err
    have hR2 : RS (sa S 11 (upd (S 11) rr (S 0 1))) (upd (Z 2) (14 + 5 * rr) (Z 2 1)) := by
      rw [← hR.1.2.1]
      exact hR.tell hr _
    refine ⟨_, _, _, _, _, _, ?_, fun sz => c_L_tell l hst G T sz ao f w q qz h qs t gr u tr oc Sw S Zs Sh Hs X Gg U K O o nh rr ho hnh ho6 hn6 hr, fun sz g => c_X8_tell l G T sz q8 Z g rr nh hr hsv hn6, rfl, ?_, ?_⟩
    · decide
    · exact fun _ => (updL_at f _).trans (congrArg Int32.toInt64 ((hR.2.1 rr hr).1))
    · exact ⟨hPo o nh, hPn nh, n, cd, hJ0.op hR2 ((hI.tell hI.2.1).mono (by omega)) rfl rfl rfl rfl (hT0.same rfl rfl) h13⟩
set_option maxHeartbeats 4000000 in
theorem st_lookout (l : Launch) (hst : l.stackTraces = false) (G : va_G) (T : Nat → ClassId) (a : CA) (ao : Nat) (q8 : Nat → Nat) {B : Nat} (hB : B + 100 < 2 ^ 27) (f : Nat → Int64) (c : CC) (Z : Nat → Nat → Int32) (x : Int32) (bb : Bool) (hJ : JX B c Z) : STp l G T a ao q8 yL_lookout wsL_lookout yX8_lookout wsX8_lookout 6 [.ref (a.1 0), .int x, .int (bI bb), .ref ao] [.ref (q8 0), .int x, .int (bI bb)] B f c Z := by
  obtain ⟨w, q, qz, h, qs, t, gr, u, tr, oc⟩ := a
  obtain ⟨Sw, S, Zs, Sh, Hs, X, Gg, U, K, O⟩ := c
  obtain ⟨o, nh, n, cd, hJ⟩ := hJ
  have hJ : JI B Sw S Zs Sh Hs X Z o nh n cd := hJ
  have hJ0 := hJ
  obtain ⟨⟨hR, hI⟩, ⟨ho, hnh, ho6, hn6, hsv, hH⟩, hsnap, ⟨hlen, hle, hn60, hcd, hcd7, hc127⟩, h13⟩ := hJ
  have hT0 : JT X Z n cd := ⟨hlen, hle, hn60, hcd, hcd7, hc127⟩
  cases hx : pBt x 3 with
  | false =>
    refine ⟨_, _, _, _, _, _, ?_, fun sz => c_L_lookout_t l hst G T sz ao f w q qz h qs t gr u tr oc Sw S Zs Sh Hs X Gg U K O x bb hx, fun sz g => c_X8_lookout_1 l G T sz q8 Z g x bb (by rw [wi3 x]; exact hx), rfl, ?_, ?_⟩
    · decide
    · exact fun z => absurd z (by decide)
    · exact ⟨o, nh, n, cd, hJ0.keep rfl rfl rfl rfl rfl (hT0.same rfl rfl) h13⟩
  | true =>
    obtain ⟨ff, hf, eff⟩ := pBt_N hx (by decide)
    subst eff
    have hv : pLk S ff bb = (if bb = true then Z 2 2 ||| iShl (nI 1) (nI ff) else Z 2 2 &&& (iShl (nI 1) (nI ff) ^^^ -1)) := by
      unfold pLk
      rw [hR.1.2.2.1]
    have hR2 := hR.lk (pLk S ff bb)
    have hI2 := hI.lk hf bb
    have hl2 : pLk S ff bb = nI (nOf (pLk S ff bb)) ∧ nOf (pLk S ff bb) < 8 := hI2.2.2.1
    have hon := (on_eq hl2.1 (by have := hl2.2; omega)).1
    rw [hv] at hR2 hon
    refine ⟨_, _, _, _, _, _, ?_, fun sz => c_L_lookout l hst G T sz ao f w q qz h qs t gr u tr oc Sw S Zs Sh Hs X Gg U K O o nh ff bb ho hnh ho6 hn6 hf, fun sz g => c_X8_lookout l G T sz q8 Z g ff bb nh hf hsv hn6, rfl, ?_, ?_⟩
    · decide
    · refine fun _ => (updL_at f _).trans (congrArg Int32.toInt64 ?_)
      rw [hv]
      exact hon
    · have hR3 : RS (sc S 2 (pLk S ff bb)) (upd (Z 2) 2 (if bb = true then Z 2 2 ||| iShl (nI 1) (nI ff) else Z 2 2 &&& (iShl (nI 1) (nI ff) ^^^ -1))) := by
        rw [hv]
        exact hR2
      exact ⟨hPo o nh, hPn nh, n, cd, hJ0.op hR3 (hI2.mono (by omega)) rfl rfl rfl rfl (hT0.same rfl rfl) h13⟩
set_option maxHeartbeats 4000000 in
theorem st_ban (l : Launch) (hst : l.stackTraces = false) (G : va_G) (T : Nat → ClassId) (a : CA) (ao : Nat) (q8 : Nat → Nat) {B : Nat} (hB : B + 100 < 2 ^ 27) (f : Nat → Int64) (c : CC) (Z : Nat → Nat → Int32) (x y : Int32) (hJ : JX B c Z) : STp l G T a ao q8 yL_ban wsL_ban yX8_ban wsX8_ban 6 [.ref (a.1 0), .int x, .int y, .ref ao] [.ref (q8 0), .int x, .int y] B f c Z := by
  obtain ⟨w, q, qz, h, qs, t, gr, u, tr, oc⟩ := a
  obtain ⟨Sw, S, Zs, Sh, Hs, X, Gg, U, K, O⟩ := c
  obtain ⟨o, nh, n, cd, hJ⟩ := hJ
  have hJ : JI B Sw S Zs Sh Hs X Z o nh n cd := hJ
  have hJ0 := hJ
  obtain ⟨⟨hR, hI⟩, ⟨ho, hnh, ho6, hn6, hsv, hH⟩, hsnap, ⟨hlen, hle, hn60, hcd, hcd7, hc127⟩, h13⟩ := hJ
  have hT0 : JT X Z n cd := ⟨hlen, hle, hn60, hcd, hcd7, hc127⟩
  cases hx : pBt x 3 with
  | false =>
    refine ⟨_, _, _, _, _, _, ?_, fun sz => c_L_ban_t l hst G T sz ao f w q qz h qs t gr u tr oc Sw S Zs Sh Hs X Gg U K O x y hx, fun sz g => c_X8_ban_1 l G T sz q8 Z g x y (by rw [wi3 x, hx]; rfl), rfl, ?_, ?_⟩
    · decide
    · exact fun z => absurd z (by decide)
    · exact ⟨o, nh, n, cd, hJ0.keep rfl rfl rfl rfl rfl (hT0.same rfl rfl) h13⟩
  | true =>
    obtain ⟨ff, hf, eff⟩ := pBt_N hx (by decide)
    subst eff
    cases hy : pBt y 20 with
    | false =>
      refine ⟨_, _, _, _, _, _, ?_, fun sz => c_L_ban_t2 l hst G T sz ao f w q qz h qs t gr u tr oc Sw S Zs Sh Hs X Gg U K O ff y hf hy, fun sz g => c_X8_ban_1 l G T sz q8 Z g (nI ff) y (by rw [wi20 y, hy, Bool.and_false]), rfl, ?_, ?_⟩
      · decide
      · exact fun z => absurd z (by decide)
      · exact ⟨o, nh, n, cd, hJ0.keep rfl rfl rfl rfl rfl (hT0.same rfl rfl) h13⟩
    | true =>
      obtain ⟨mm, hm, emm⟩ := pBt_N hy (by decide)
      subst emm
      refine ⟨_, _, _, _, _, _, ?_, fun sz => c_L_ban l hst G T sz ao f w q qz h qs t gr u tr oc Sw S Zs Sh Hs X Gg U K O o nh ff mm ho hnh ho6 hn6 hf hm, fun sz g => c_X8_ban l G T sz q8 Z g ff mm nh hf hm hsv hn6, rfl, ?_, ?_⟩
      · decide
      · exact fun _ => (updL_at f _).trans (congrArg Int32.toInt64 (ban_ans hR hf hm))
      · exact ⟨hPo o nh, hPn nh, n, cd, hJ0.op (hR.ban hf hm) ((hI.ban hf).mono (by omega)) rfl rfl rfl rfl (hT0.same rfl rfl) h13⟩
set_option maxHeartbeats 4000000 in
theorem st_set (l : Launch) (hst : l.stackTraces = false) (G : va_G) (T : Nat → ClassId) (a : CA) (ao : Nat) (q8 : Nat → Nat) {B : Nat} (hB : B + 100 < 2 ^ 27) (f : Nat → Int64) (c : CC) (Z : Nat → Nat → Int32) (x y : Int32) (hJ : JX B c Z) : STp l G T a ao q8 yL_set wsL_set yX8_set wsX8_set 6 [.ref (a.1 0), .int x, .int y, .ref ao] [.ref (q8 0), .int x, .int y] B f c Z := by
  obtain ⟨w, q, qz, h, qs, t, gr, u, tr, oc⟩ := a
  obtain ⟨Sw, S, Zs, Sh, Hs, X, Gg, U, K, O⟩ := c
  obtain ⟨o, nh, n, cd, hJ⟩ := hJ
  have hJ : JI B Sw S Zs Sh Hs X Z o nh n cd := hJ
  have hJ0 := hJ
  obtain ⟨⟨hR, hI⟩, ⟨ho, hnh, ho6, hn6, hsv, hH⟩, hsnap, ⟨hlen, hle, hn60, hcd, hcd7, hc127⟩, h13⟩ := hJ
  have hT0 : JT X Z n cd := ⟨hlen, hle, hn60, hcd, hcd7, hc127⟩
  cases hx : pBt x 2 with
  | false =>
    refine ⟨_, _, _, _, _, _, ?_, fun sz => c_L_set_t l hst G T sz ao f w q qz h qs t gr u tr oc Sw S Zs Sh Hs X Gg U K O x y hx, fun sz g => c_X8_set_1 l G T sz q8 Z g x y (by rw [wi2 x]; exact hx), rfl, ?_, ?_⟩
    · decide
    · exact fun z => absurd z (by decide)
    · exact ⟨o, nh, n, cd, hJ0.keep rfl rfl rfl rfl rfl (hT0.same rfl rfl) h13⟩
  | true =>
    obtain ⟨ii, hi, eii⟩ := pBt_N hx (by decide)
    subst eii
    have hvo : pVO (nI ii) y = pWi y (nI ii) (nI (if ii = 0 then 2 else 9)) := by
      rcases (show ii = 0 ∨ ii = 1 by omega) with rfl | rfl
      · have e : pVO (nI 0) y = decide (¬ y < 0 ∧ ¬ nI 2 < y) := if_pos nI_0
        rw [e, ← nI_0]
        rfl
      · exact if_neg (by decide)
    cases hv : pVO (nI ii) y with
    | false =>
      refine ⟨_, _, _, _, _, _, ?_, fun sz => c_L_set_t2 l hst G T sz ao f w q qz h qs t gr u tr oc Sw S Zs Sh Hs X Gg U K O ii y hi hv, fun sz g => c_X8_set_2 l G T sz q8 Z g ii y hi (by rw [← hvo]; exact hv), rfl, ?_, ?_⟩
      · decide
      · exact fun z => absurd z (by decide)
      · exact ⟨o, nh, n, cd, hJ0.keep rfl rfl rfl rfl rfl (hT0.same rfl rfl) h13⟩
    | true =>
      obtain ⟨vv, hv1, hv2, ey⟩ := wi_N (a := ii) (b := if ii = 0 then 2 else 9) (by split <;> decide) (by split <;> omega) (by rw [← hvo]; exact hv)
      subst ey
      refine ⟨_, _, _, _, _, _, ?_, fun sz => c_L_set l hst G T sz ao f w q qz h qs t gr u tr oc Sw S Zs Sh Hs X Gg U K O o nh ii (nI vv) ho hnh ho6 hn6 hi hv, fun sz g => c_X8_set l G T sz q8 Z g ii vv nh hi hv1 hv2 hsv hn6, rfl, ?_, ?_⟩
      · decide
      · refine fun _ => (updL_at f _).trans (congrArg Int32.toInt64 ?_)
        rcases (show ii = 0 ∨ ii = 1 by omega) with rfl | rfl
        · exact hR.1.2.2.2.1
        · exact hR.1.2.2.2.2
      · exact ⟨hPo o nh, hPn nh, n, cd, hJ0.op (hR.set hi (nI vv)) ((hI.set hi (show vv < if ii = 0 then 3 else 10 by split at hv2 <;> split <;> omega)).mono (by omega)) rfl rfl rfl rfl (hT0.same rfl rfl) h13⟩
set_option maxHeartbeats 4000000 in
theorem st_whistle (l : Launch) (hst : l.stackTraces = false) (G : va_G) (T : Nat → ClassId) (a : CA) (ao : Nat) (q8 : Nat → Nat) {B : Nat} (hB : B + 100 < 2 ^ 27) (f : Nat → Int64) (c : CC) (Z : Nat → Nat → Int32) (x y : Int32) (hJ : JX B c Z) : STp l G T a ao q8 yL_whistle wsL_whistle yX8_whistle wsX8_whistle 7 [.ref (a.1 0), .int x, .int y, .ref ao] [.ref (q8 0), .int x, .int y] B f c Z := by
  obtain ⟨w, q, qz, h, qs, t, gr, u, tr, oc⟩ := a
  obtain ⟨Sw, S, Zs, Sh, Hs, X, Gg, U, K, O⟩ := c
  obtain ⟨o, nh, n, cd, hJ⟩ := hJ
  have hJ : JI B Sw S Zs Sh Hs X Z o nh n cd := hJ
  have hJ0 := hJ
  obtain ⟨⟨hR, hI⟩, ⟨ho, hnh, ho6, hn6, hsv, hH⟩, hsnap, ⟨hlen, hle, hn60, hcd, hcd7, hc127⟩, h13⟩ := hJ
  have hT0 : JT X Z n cd := ⟨hlen, hle, hn60, hcd, hcd7, hc127⟩
  cases hx : pBt x 6 with
  | false =>
    refine ⟨_, _, _, _, _, _, ?_, fun sz => c_L_whistle_t l hst G T sz ao f w q qz h qs t gr u tr oc Sw S Zs Sh Hs X Gg U K O x y hx, fun sz g => c_X8_whistle_1 l G T sz q8 Z g x y (by rw [wi6 x, hx]; rfl), rfl, ?_, ?_⟩
    · decide
    · exact fun z => absurd z (by decide)
    · exact ⟨o, nh, n, cd, hJ0.keep rfl rfl rfl rfl rfl (hT0.same rfl rfl) h13⟩
  | true =>
    obtain ⟨rr, hr, err⟩ := pBt_N hx (by decide)
    subst err
    cases hy : pBt y 20 with
    | false =>
      refine ⟨_, _, _, _, _, _, ?_, fun sz => c_L_whistle_t2 l hst G T sz ao f w q qz h qs t gr u tr oc Sw S Zs Sh Hs X Gg U K O rr y hr hy, fun sz g => c_X8_whistle_1 l G T sz q8 Z g (nI rr) y (by rw [wi20 y, hy, Bool.and_false]), rfl, ?_, ?_⟩
      · decide
      · exact fun z => absurd z (by decide)
      · exact ⟨o, nh, n, cd, hJ0.keep rfl rfl rfl rfl rfl (hT0.same rfl rfl) h13⟩
    | true =>
      obtain ⟨mm, hm, emm⟩ := pBt_N hy (by decide)
      subst emm
      have hw : pWhy S rr mm = mWy (sc Z 0 (nI 0)) rr mm := wy_eq (Y := sc Z 0 (nI 0)) hR hr hm
      by_cases hwhy : pWhy S rr mm = 0
      · have hu := un_eq (Y := svZ Z nh) hR hI hr
        refine ⟨_, _, _, _, _, _, ?_, fun sz => c_L_whistle l hst G T sz ao f w q qz h qs t gr u tr oc Sw S Zs Sh Hs X Gg U K O o nh rr mm ho hnh ho6 hn6 hr hm hwhy, fun sz g => c_X8_whistle l G T sz q8 Z g rr mm nh hr hm hsv hn6 (by rw [← hw]; exact hwhy), rfl, ?_, ?_⟩
        · decide
        · refine fun _ => (updL_at f _).trans (congrArg Int32.toInt64 ?_)
          rw [hu.1]
          exact (on_eq hu.2.1 hu.2.2).1
        · exact ⟨hPo o nh, hPn nh, n, cd, hJ0.op (RS.wh (Y := svZ Z nh) hR hI hr hm O) ((SI.wh (Y := svZ Z nh) hR hI hr (by omega) O).mono (by omega)) rfl rfl rfl rfl (hT0.same rfl rfl) h13⟩
      · skip
        refine ⟨_, _, _, _, _, _, ?_, fun sz => c_L_whistle_t3 l hst G T sz ao f w q qz h qs t gr u tr oc Sw S Zs Sh Hs X Gg U K O rr mm hr hm hwhy, fun sz g => c_X8_whistle_2 l G T sz q8 Z g rr mm hr hm (by rw [← hw]; exact hwhy), rfl, ?_, ?_⟩
        · decide
        · exact fun z => absurd z (by decide)
        · exact ⟨o, nh, n, cd, hJ0.keep rfl rfl rfl rfl rfl (hT0.same rfl rfl) h13⟩
set_option maxHeartbeats 4000000 in
theorem st_append (l : Launch) (hst : l.stackTraces = false) (G : va_G) (T : Nat → ClassId) (a : CA) (ao : Nat) (q8 : Nat → Nat) {B : Nat} (hB : B + 100 < 2 ^ 27) (f : Nat → Int64) (c : CC) (Z : Nat → Nat → Int32) (x : Int32) (hJ : JX B c Z) : STp l G T a ao q8 yL_append wsL_append yX8_append wsX8_append 6 [.ref (a.1 0), .int x, .ref ao] [.ref (q8 0), .int x] B f c Z := by
  obtain ⟨w, q, qz, h, qs, t, gr, u, tr, oc⟩ := a
  obtain ⟨Sw, S, Zs, Sh, Hs, X, Gg, U, K, O⟩ := c
  obtain ⟨o, nh, n, cd, hJ⟩ := hJ
  have hJ : JI B Sw S Zs Sh Hs X Z o nh n cd := hJ
  have hJ0 := hJ
  obtain ⟨⟨hR, hI⟩, ⟨ho, hnh, ho6, hn6, hsv, hH⟩, hsnap, ⟨hlen, hle, hn60, hcd, hcd7, hc127⟩, h13⟩ := hJ
  have hT0 : JT X Z n cd := ⟨hlen, hle, hn60, hcd, hcd7, hc127⟩
  cases hx : pWi x (nI 33) (nI 126) with
  | false =>
    have hb9 : x < nI 33 ∨ ¬ x ≤ nI 126 := by
      have h1 := of_decide_eq_false hx
      by_cases z : x < nI 33
      · exact Or.inl z
      · exact Or.inr (fun z2 => h1 ⟨z, Int32.not_lt.mpr z2⟩)
    refine ⟨_, _, _, _, _, _, ?_, fun sz => c_L_append_t l hst G T sz ao f w q qz h qs t gr u tr oc Sw S Zs Sh Hs X Gg U K O x hb9, fun sz g => c_X8_append_1 l G T sz q8 Z g x hx, rfl, ?_, ?_⟩
    · decide
    · exact fun z => absurd z (by decide)
    · exact ⟨o, nh, n, cd, hJ0.keep rfl rfl rfl rfl rfl (hT0.same rfl rfl) h13⟩
  | true =>
    obtain ⟨cc, hc1, hc2, ex⟩ := wi_N (a := 33) (b := 126) (by decide) (by decide) hx
    subst ex
    by_cases h60 : n = 60
    · have hle6 : Z 0 7 = nI 60 := by rw [hle, h60]
      refine ⟨_, _, _, _, _, _, ?_, fun sz => c_L_append_t2 l hst G T sz ao f w q qz h qs t gr u tr oc Sw S Zs Sh Hs X Gg U K O n cc hlen h60 hc1 hc2, fun sz g => c_X8_append_2 l G T sz q8 Z g cc hc1 hc2 hle6, rfl, ?_, ?_⟩
      · decide
      · exact fun z => absurd z (by decide)
      · exact ⟨o, nh, n, cd, hJ0.keep rfl rfl rfl rfl rfl (hT0.same rfl rfl) h13⟩
    · have hn59 : n < 60 := by omega
      have hJT : JT (sa (sc X 1 (nI (n + 1))) 1 (upd (X 1) n (nI cc))) (sa (sc (sc Z 0 (nI 0)) 7 (nI (n + 1))) 7 (upd (Z 7) n (nI cc))) (n + 1) (fun i => if i = n then cc else cd i) := by
        refine ⟨rfl, rfl, hn59, fun i hi => ?_, fun i hi => ?_, fun i hi => ?_⟩
        · show upd (X 1) n (nI cc) i = nI (if i = n then cc else cd i)
          by_cases z : i = n
          · rw [z, upd_at, if_pos rfl]
          · rw [upd_no z, if_neg z]; exact hcd i (by omega)
        · show upd (Z 7) n (nI cc) i = nI (if i = n then cc else cd i)
          by_cases z : i = n
          · rw [z, upd_at, if_pos rfl]
          · rw [upd_no z, if_neg z]; exact hcd7 i (by omega)
        · show (if i = n then cc else cd i) < 127
          by_cases z : i = n
          · rw [if_pos z]; omega
          · rw [if_neg z]; exact hc127 i (by omega)
      refine ⟨_, _, _, _, _, _, ?_, fun sz => c_L_append l hst G T sz ao f w q qz h qs t gr u tr oc Sw S Zs Sh Hs X Gg U K O n cc hlen hn60 hn59 hc1 hc2, fun sz g => c_X8_append l G T sz q8 Z g cc n hc1 hc2 hle hn59, rfl, ?_, ?_⟩
      · decide
      · exact fun _ => (updL_at f _).trans (congrArg Int32.toInt64 (rfl))
      · exact ⟨o, nh, n + 1, _, hJ0.keep rfl rfl rfl rfl rfl hJT h13⟩
set_option maxHeartbeats 4000000 in
theorem st_stopped (l : Launch) (hst : l.stackTraces = false) (G : va_G) (T : Nat → ClassId) (a : CA) (ao : Nat) (q8 : Nat → Nat) {B : Nat} (hB : B + 100 < 2 ^ 27) (f : Nat → Int64) (c : CC) (Z : Nat → Nat → Int32) (x : Int32) (hJ : JX B c Z) : STp l G T a ao q8 yL_stopped wsL_stopped yX8_stopped wsX8_stopped 6 [.ref (a.1 0), .int x, .ref ao] [.ref (q8 0), .int x] B f c Z := by
  obtain ⟨w, q, qz, h, qs, t, gr, u, tr, oc⟩ := a
  obtain ⟨Sw, S, Zs, Sh, Hs, X, Gg, U, K, O⟩ := c
  obtain ⟨o, nh, n, cd, hJ⟩ := hJ
  have hJ : JI B Sw S Zs Sh Hs X Z o nh n cd := hJ
  have hJ0 := hJ
  obtain ⟨⟨hR, hI⟩, ⟨ho, hnh, ho6, hn6, hsv, hH⟩, hsnap, ⟨hlen, hle, hn60, hcd, hcd7, hc127⟩, h13⟩ := hJ
  have hT0 : JT X Z n cd := ⟨hlen, hle, hn60, hcd, hcd7, hc127⟩
  cases hx : pBt x 2 with
  | false =>
    refine ⟨_, _, _, _, _, _, ?_, fun sz => c_L_stopped_t l hst G T sz ao f w q qz h qs t gr u tr oc Sw S Zs Sh Hs X Gg U K O x hx, fun sz g => c_X8_stopped_1 l G T sz q8 Z g x (by rw [wi2 x]; exact hx), rfl, ?_, ?_⟩
    · decide
    · exact fun z => absurd z (by decide)
    · exact ⟨o, nh, n, cd, hJ0.keep rfl rfl rfl rfl rfl (hT0.same rfl rfl) h13⟩
  | true =>
    obtain ⟨kk, hk, ekk⟩ := pBt_N hx (by decide)
    subst ekk
    refine ⟨_, _, _, _, _, _, ?_, fun sz => c_L_stopped l hst G T sz ao f w q qz h qs t gr u tr oc Sw S Zs Sh Hs X Gg U K O kk hk, fun sz g => c_X8_stopped l G T sz q8 Z g kk hk, rfl, ?_, ?_⟩
    · decide
    · exact fun _ => (updL_at f _).trans (congrArg Int32.toInt64 (hR.2.2.2.2.2.1 kk hk))
    · exact ⟨o, nh, n, cd, hJ0.keep rfl rfl rfl rfl rfl (hT0.same rfl rfl) h13⟩
set_option maxHeartbeats 4000000 in
theorem st_latest (l : Launch) (hst : l.stackTraces = false) (G : va_G) (T : Nat → ClassId) (a : CA) (ao : Nat) (q8 : Nat → Nat) {B : Nat} (hB : B + 100 < 2 ^ 27) (f : Nat → Int64) (c : CC) (Z : Nat → Nat → Int32) (x : Int32) (hJ : JX B c Z) : STp l G T a ao q8 yL_latest wsL_latest yX8_latest wsX8_latest 6 [.ref (a.1 0), .int x, .ref ao] [.ref (q8 0), .int x] B f c Z := by
  obtain ⟨w, q, qz, h, qs, t, gr, u, tr, oc⟩ := a
  obtain ⟨Sw, S, Zs, Sh, Hs, X, Gg, U, K, O⟩ := c
  obtain ⟨o, nh, n, cd, hJ⟩ := hJ
  have hJ : JI B Sw S Zs Sh Hs X Z o nh n cd := hJ
  have hJ0 := hJ
  obtain ⟨⟨hR, hI⟩, ⟨ho, hnh, ho6, hn6, hsv, hH⟩, hsnap, ⟨hlen, hle, hn60, hcd, hcd7, hc127⟩, h13⟩ := hJ
  have hT0 : JT X Z n cd := ⟨hlen, hle, hn60, hcd, hcd7, hc127⟩
  cases hx : pBt x 6 with
  | false =>
    refine ⟨_, _, _, _, _, _, ?_, fun sz => c_L_latest_t l hst G T sz ao f w q qz h qs t gr u tr oc Sw S Zs Sh Hs X Gg U K O x hx, fun sz g => c_X8_latest_1 l G T sz q8 Z g x (by rw [wi6 x]; exact hx), rfl, ?_, ?_⟩
    · decide
    · exact fun z => absurd z (by decide)
    · exact ⟨o, nh, n, cd, hJ0.keep rfl rfl rfl rfl rfl (hT0.same rfl rfl) h13⟩
  | true =>
    obtain ⟨kk, hk, ekk⟩ := pBt_N hx (by decide)
    subst ekk
    refine ⟨_, _, _, _, _, _, ?_, fun sz => c_L_latest l hst G T sz ao f w q qz h qs t gr u tr oc Sw S Zs Sh Hs X Gg U K O kk hk, fun sz g => c_X8_latest l G T sz q8 Z g kk hk, rfl, ?_, ?_⟩
    · decide
    · exact fun _ => (updL_at f _).trans (congrArg Int32.toInt64 (hR.2.2.2.2.1 kk hk))
    · exact ⟨o, nh, n, cd, hJ0.keep rfl rfl rfl rfl rfl (hT0.same rfl rfl) h13⟩
set_option maxHeartbeats 4000000 in
theorem st_message (l : Launch) (hst : l.stackTraces = false) (G : va_G) (T : Nat → ClassId) (a : CA) (ao : Nat) (q8 : Nat → Nat) {B : Nat} (hB : B + 100 < 2 ^ 27) (f : Nat → Int64) (c : CC) (Z : Nat → Nat → Int32) (x y : Int32) (hJ : JX B c Z) : STp l G T a ao q8 yL_message wsL_message yX8_message wsX8_message 6 [.ref (a.1 0), .int x, .int y, .ref ao] [.ref (q8 0), .int x, .int y] B f c Z := by
  obtain ⟨w, q, qz, h, qs, t, gr, u, tr, oc⟩ := a
  obtain ⟨Sw, S, Zs, Sh, Hs, X, Gg, U, K, O⟩ := c
  obtain ⟨o, nh, n, cd, hJ⟩ := hJ
  have hJ : JI B Sw S Zs Sh Hs X Z o nh n cd := hJ
  have hJ0 := hJ
  obtain ⟨⟨hR, hI⟩, ⟨ho, hnh, ho6, hn6, hsv, hH⟩, hsnap, ⟨hlen, hle, hn60, hcd, hcd7, hc127⟩, h13⟩ := hJ
  have hT0 : JT X Z n cd := ⟨hlen, hle, hn60, hcd, hcd7, hc127⟩
  cases hx : pBt x 20 with
  | false =>
    refine ⟨_, _, _, _, _, _, ?_, fun sz => c_L_message_t l hst G T sz ao f w q qz h qs t gr u tr oc Sw S Zs Sh Hs X Gg U K O x y hx, fun sz g => c_X8_message_1 l G T sz q8 Z g x y (by rw [wi20 x]; exact hx), rfl, ?_, ?_⟩
    · decide
    · exact fun z => absurd z (by decide)
    · exact ⟨o, nh, n, cd, hJ0.keep rfl rfl rfl rfl rfl (hT0.same rfl rfl) h13⟩
  | true =>
    obtain ⟨mm, hm, emm⟩ := pBt_N hx (by decide)
    subst emm
    cases hy : pBt y 4 with
    | false =>
      refine ⟨_, _, _, _, _, _, ?_, fun sz => c_L_message_t2 l hst G T sz ao f w q qz h qs t gr u tr oc Sw S Zs Sh Hs X Gg U K O mm y hm hy, fun sz g => c_X8_message_2 l G T sz q8 Z g mm y hm (by rw [wi4 y]; exact hy), rfl, ?_, ?_⟩
      · decide
      · exact fun z => absurd z (by decide)
      · exact ⟨o, nh, n, cd, hJ0.keep rfl rfl rfl rfl rfl (hT0.same rfl rfl) h13⟩
    | true =>
      obtain ⟨jj, hj, ejj⟩ := pBt_N hy (by decide)
      subst ejj
      refine ⟨_, _, _, _, _, _, ?_, fun sz => c_L_message l hst G T sz ao f w q qz h qs t gr u tr oc Sw S Zs Sh Hs X Gg U K O mm jj hm hj, fun sz g => c_X8_message l G T sz q8 Z g mm jj hm (by omega), rfl, ?_, ?_⟩
      · decide
      · exact fun _ => (updL_at f _).trans (congrArg Int32.toInt64 (ms_eq (Z := sc Z 0 (nI 0)) hR hI hm hj))
      · exact ⟨o, nh, n, cd, hJ0.keep rfl rfl rfl rfl rfl (hT0.same rfl rfl) h13⟩
set_option maxHeartbeats 4000000 in
theorem st_note (l : Launch) (hst : l.stackTraces = false) (G : va_G) (T : Nat → ClassId) (a : CA) (ao : Nat) (q8 : Nat → Nat) {B : Nat} (hB : B + 100 < 2 ^ 27) (f : Nat → Int64) (c : CC) (Z : Nat → Nat → Int32) (x y : Int32) (hJ : JX B c Z) : STp l G T a ao q8 yL_note wsL_note yX8_note wsX8_note 6 [.ref (a.1 0), .int x, .int y, .ref ao] [.ref (q8 0), .int x, .int y] B f c Z := by
  obtain ⟨w, q, qz, h, qs, t, gr, u, tr, oc⟩ := a
  obtain ⟨Sw, S, Zs, Sh, Hs, X, Gg, U, K, O⟩ := c
  obtain ⟨o, nh, n, cd, hJ⟩ := hJ
  have hJ : JI B Sw S Zs Sh Hs X Z o nh n cd := hJ
  have hJ0 := hJ
  obtain ⟨⟨hR, hI⟩, ⟨ho, hnh, ho6, hn6, hsv, hH⟩, hsnap, ⟨hlen, hle, hn60, hcd, hcd7, hc127⟩, h13⟩ := hJ
  have hT0 : JT X Z n cd := ⟨hlen, hle, hn60, hcd, hcd7, hc127⟩
  cases hx : pBt x 20 with
  | false =>
    refine ⟨_, _, _, _, _, _, ?_, fun sz => c_L_note_t l hst G T sz ao f w q qz h qs t gr u tr oc Sw S Zs Sh Hs X Gg U K O x y hx, fun sz g => c_X8_note_1 l G T sz q8 Z g x y (by rw [wi20 x]; exact hx), rfl, ?_, ?_⟩
    · decide
    · exact fun z => absurd z (by decide)
    · exact ⟨o, nh, n, cd, hJ0.keep rfl rfl rfl rfl rfl (hT0.same rfl rfl) h13⟩
  | true =>
    obtain ⟨mm, hm, emm⟩ := pBt_N hx (by decide)
    subst emm
    cases hy : pBt y 8 with
    | false =>
      refine ⟨_, _, _, _, _, _, ?_, fun sz => c_L_note_t2 l hst G T sz ao f w q qz h qs t gr u tr oc Sw S Zs Sh Hs X Gg U K O mm y hm hy, fun sz g => c_X8_note_2 l G T sz q8 Z g mm y hm (by rw [wi8 y]; exact hy), rfl, ?_, ?_⟩
      · decide
      · exact fun z => absurd z (by decide)
      · exact ⟨o, nh, n, cd, hJ0.keep rfl rfl rfl rfl rfl (hT0.same rfl rfl) h13⟩
    | true =>
      obtain ⟨jj, hj, ejj⟩ := pBt_N hy (by decide)
      subst ejj
      refine ⟨_, _, _, _, _, _, ?_, fun sz => c_L_note l hst G T sz ao f w q qz h qs t gr u tr oc Sw S Zs Sh Hs X Gg U K O mm jj hm hj, fun sz g => c_X8_note l G T sz q8 Z g mm jj hm hj, rfl, ?_, ?_⟩
      · decide
      · exact fun _ => (updL_at f _).trans (congrArg Int32.toInt64 (no_eq (Z := sc Z 0 (nI 0)) hR hI hm hj))
      · exact ⟨o, nh, n, cd, hJ0.keep rfl rfl rfl rfl rfl (hT0.same rfl rfl) h13⟩
set_option maxHeartbeats 4000000 in
theorem st_room (l : Launch) (hst : l.stackTraces = false) (G : va_G) (T : Nat → ClassId) (a : CA) (ao : Nat) (q8 : Nat → Nat) {B : Nat} (hB : B + 100 < 2 ^ 27) (f : Nat → Int64) (c : CC) (Z : Nat → Nat → Int32) (x y : Int32) (hJ : JX B c Z) : STp l G T a ao q8 yL_room wsL_room yX8_room wsX8_room 6 [.ref (a.1 0), .int x, .int y, .ref ao] [.ref (q8 0), .int x, .int y] B f c Z := by
  obtain ⟨w, q, qz, h, qs, t, gr, u, tr, oc⟩ := a
  obtain ⟨Sw, S, Zs, Sh, Hs, X, Gg, U, K, O⟩ := c
  obtain ⟨o, nh, n, cd, hJ⟩ := hJ
  have hJ : JI B Sw S Zs Sh Hs X Z o nh n cd := hJ
  have hJ0 := hJ
  obtain ⟨⟨hR, hI⟩, ⟨ho, hnh, ho6, hn6, hsv, hH⟩, hsnap, ⟨hlen, hle, hn60, hcd, hcd7, hc127⟩, h13⟩ := hJ
  have hT0 : JT X Z n cd := ⟨hlen, hle, hn60, hcd, hcd7, hc127⟩
  cases hx : pBt x 6 with
  | false =>
    refine ⟨_, _, _, _, _, _, ?_, fun sz => c_L_room_t l hst G T sz ao f w q qz h qs t gr u tr oc Sw S Zs Sh Hs X Gg U K O x y hx, fun sz g => c_X8_room_1 l G T sz q8 Z g x y (by rw [wi6 x]; exact hx), rfl, ?_, ?_⟩
    · decide
    · exact fun z => absurd z (by decide)
    · exact ⟨o, nh, n, cd, hJ0.keep rfl rfl rfl rfl rfl (hT0.same rfl rfl) h13⟩
  | true =>
    obtain ⟨rr, hr, err⟩ := pBt_N hx (by decide)
    subst err
    cases hy : pBt y 6 with
    | false =>
      refine ⟨_, _, _, _, _, _, ?_, fun sz => c_L_room_t2 l hst G T sz ao f w q qz h qs t gr u tr oc Sw S Zs Sh Hs X Gg U K O rr y hr hy, fun sz g => c_X8_room_2 l G T sz q8 Z g rr y hr (by rw [wi6 y]; exact hy), rfl, ?_, ?_⟩
      · decide
      · exact fun z => absurd z (by decide)
      · exact ⟨o, nh, n, cd, hJ0.keep rfl rfl rfl rfl rfl (hT0.same rfl rfl) h13⟩
    | true =>
      obtain ⟨jj, hj, ejj⟩ := pBt_N hy (by decide)
      subst ejj
      refine ⟨_, _, _, _, _, _, ?_, fun sz => c_L_room l hst G T sz ao f w q qz h qs t gr u tr oc Sw S Zs Sh Hs X Gg U K O rr jj hr hj, fun sz g => c_X8_room l G T sz q8 Z g rr jj hr (by omega), rfl, ?_, ?_⟩
      · decide
      · exact fun _ => (updL_at f _).trans (congrArg Int32.toInt64 (rm_eq (Z := sc Z 0 (nI 0)) hR hr hj))
      · exact ⟨o, nh, n, cd, hJ0.keep rfl rfl rfl rfl rfl (hT0.same rfl rfl) h13⟩
set_option maxHeartbeats 4000000 in
theorem st_count (l : Launch) (hst : l.stackTraces = false) (G : va_G) (T : Nat → ClassId) (a : CA) (ao : Nat) (q8 : Nat → Nat) {B : Nat} (hB : B + 100 < 2 ^ 27) (f : Nat → Int64) (c : CC) (Z : Nat → Nat → Int32) (x : Int32) (hJ : JX B c Z) : STp l G T a ao q8 yL_count wsL_count yX8_count wsX8_count 6 [.ref (a.1 0), .int x, .ref ao] [.ref (q8 0), .int x] B f c Z := by
  obtain ⟨w, q, qz, h, qs, t, gr, u, tr, oc⟩ := a
  obtain ⟨Sw, S, Zs, Sh, Hs, X, Gg, U, K, O⟩ := c
  obtain ⟨o, nh, n, cd, hJ⟩ := hJ
  have hJ : JI B Sw S Zs Sh Hs X Z o nh n cd := hJ
  have hJ0 := hJ
  obtain ⟨⟨hR, hI⟩, ⟨ho, hnh, ho6, hn6, hsv, hH⟩, hsnap, ⟨hlen, hle, hn60, hcd, hcd7, hc127⟩, h13⟩ := hJ
  have hT0 : JT X Z n cd := ⟨hlen, hle, hn60, hcd, hcd7, hc127⟩
  cases hx : pBt x 14 with
  | false =>
    refine ⟨_, _, _, _, _, _, ?_, fun sz => c_L_count_t l hst G T sz ao f w q qz h qs t gr u tr oc Sw S Zs Sh Hs X Gg U K O x hx, fun sz g => c_X8_count_1 l G T sz q8 Z g x (by rw [wi14 x]; exact hx), rfl, ?_, ?_⟩
    · decide
    · exact fun z => absurd z (by decide)
    · exact ⟨o, nh, n, cd, hJ0.keep rfl rfl rfl rfl rfl (hT0.same rfl rfl) h13⟩
  | true =>
    obtain ⟨kk, hk, ekk⟩ := pBt_N hx (by decide)
    subst ekk
    have hct := ct_eq (Z := sc Z 0 (nI 0)) hR hI (n := nh) hsv hk
    have htl : ∀ i : Nat, i < 20 → S 6 i = nI (tlF S i) := fun i hi => (ln_eq hR hI hi).2.2
    have htl8 : ∀ i : Nat, i < 20 → tlF S i ≤ 8 := fun i hi => (ln_eq hR hI hi).2.1
    have hln : ∀ i : Nat, i < 20 → Z 2 (47 + 11 * i) = nI (tlF S i) := fun i hi => (ln_eq hR hI hi).1
    by_cases h3 : kk = 3
    · subst h3
      rw [if_pos rfl] at hct
      refine ⟨_, _, _, _, _, _, ?_, fun sz => c_L_count_3 l hst G T sz ao f w q qz h qs t gr u tr oc Sw S Zs Sh Hs X Gg U K O (tlF S) htl htl8, fun sz g => c_X8_count l G T sz q8 Z g (tlF S) 3 hln htl8 (by decide), rfl, ?_, ?_⟩
      · decide
      · exact fun _ => (updL_at f _).trans (congrArg Int32.toInt64 (hct))
      · exact ⟨o, nh, n, cd, hJ0.keep rfl rfl rfl rfl rfl (hT0.same rfl rfl) h13⟩
    · rw [if_neg h3] at hct
      refine ⟨_, _, _, _, _, _, ?_, fun sz => c_L_count l hst G T sz ao f w q qz h qs t gr u tr oc Sw S Zs Sh Hs X Gg U K O nh kk hnh hk h3, fun sz g => c_X8_count l G T sz q8 Z g (tlF S) kk hln htl8 (by omega), rfl, ?_, ?_⟩
      · decide
      · exact fun _ => (updL_at f _).trans (congrArg Int32.toInt64 (hct))
      · exact ⟨o, nh, n, cd, hJ0.keep rfl rfl rfl rfl rfl (hT0.same rfl rfl) h13⟩
set_option maxHeartbeats 4000000 in
theorem st_whyNot (l : Launch) (hst : l.stackTraces = false) (G : va_G) (T : Nat → ClassId) (a : CA) (ao : Nat) (q8 : Nat → Nat) {B : Nat} (hB : B + 100 < 2 ^ 27) (f : Nat → Int64) (c : CC) (Z : Nat → Nat → Int32) (x y : Int32) (hJ : JX B c Z) : STp l G T a ao q8 yL_whyNot wsL_whyNot yX8_whyNot wsX8_whyNot 6 [.ref (a.1 0), .int x, .int y, .ref ao] [.ref (q8 0), .int x, .int y] B f c Z := by
  obtain ⟨w, q, qz, h, qs, t, gr, u, tr, oc⟩ := a
  obtain ⟨Sw, S, Zs, Sh, Hs, X, Gg, U, K, O⟩ := c
  obtain ⟨o, nh, n, cd, hJ⟩ := hJ
  have hJ : JI B Sw S Zs Sh Hs X Z o nh n cd := hJ
  have hJ0 := hJ
  obtain ⟨⟨hR, hI⟩, ⟨ho, hnh, ho6, hn6, hsv, hH⟩, hsnap, ⟨hlen, hle, hn60, hcd, hcd7, hc127⟩, h13⟩ := hJ
  have hT0 : JT X Z n cd := ⟨hlen, hle, hn60, hcd, hcd7, hc127⟩
  cases hx : pBt x 6 with
  | false =>
    refine ⟨_, _, _, _, _, _, ?_, fun sz => c_L_whyNot_t l hst G T sz ao f w q qz h qs t gr u tr oc Sw S Zs Sh Hs X Gg U K O x y hx, fun sz g => c_X8_whyNot_1 l G T sz q8 Z g x y (by rw [wi6 x, hx]; rfl), rfl, ?_, ?_⟩
    · decide
    · exact fun z => absurd z (by decide)
    · exact ⟨o, nh, n, cd, hJ0.keep rfl rfl rfl rfl rfl (hT0.same rfl rfl) h13⟩
  | true =>
    obtain ⟨rr, hr, err⟩ := pBt_N hx (by decide)
    subst err
    cases hy : pBt y 20 with
    | false =>
      refine ⟨_, _, _, _, _, _, ?_, fun sz => c_L_whyNot_t2 l hst G T sz ao f w q qz h qs t gr u tr oc Sw S Zs Sh Hs X Gg U K O rr y hr hy, fun sz g => c_X8_whyNot_1 l G T sz q8 Z g (nI rr) y (by rw [wi20 y, hy, Bool.and_false]), rfl, ?_, ?_⟩
      · decide
      · exact fun z => absurd z (by decide)
      · exact ⟨o, nh, n, cd, hJ0.keep rfl rfl rfl rfl rfl (hT0.same rfl rfl) h13⟩
    | true =>
      obtain ⟨mm, hm, emm⟩ := pBt_N hy (by decide)
      subst emm
      refine ⟨_, _, _, _, _, _, ?_, fun sz => c_L_whyNot l hst G T sz ao f w q qz h qs t gr u tr oc Sw S Zs Sh Hs X Gg U K O rr mm hr hm, fun sz g => c_X8_whyNot l G T sz q8 Z g rr mm hr hm, rfl, ?_, ?_⟩
      · decide
      · exact fun _ => (updL_at f _).trans (congrArg Int32.toInt64 (wy_eq (Y := sc Z 0 (nI 0)) hR hr hm))
      · exact ⟨o, nh, n, cd, hJ0.keep rfl rfl rfl rfl rfl (hT0.same rfl rfl) h13⟩
set_option maxHeartbeats 4000000 in
theorem st_ifWhistled (l : Launch) (hst : l.stackTraces = false) (G : va_G) (T : Nat → ClassId) (a : CA) (ao : Nat) (q8 : Nat → Nat) {B : Nat} (hB : B + 100 < 2 ^ 27) (f : Nat → Int64) (c : CC) (Z : Nat → Nat → Int32) (x y z : Int32) (hJ : JX B c Z) : STp l G T a ao q8 yL_ifWhistled wsL_ifWhistled yX8_ifWhistled wsX8_ifWhistled 6 [.ref (a.1 0), .int x, .int y, .int z, .ref ao] [.ref (q8 0), .int x, .int y, .int z] B f c Z := by
  obtain ⟨w, q, qz, h, qs, t, gr, u, tr, oc⟩ := a
  obtain ⟨Sw, S, Zs, Sh, Hs, X, Gg, U, K, O⟩ := c
  obtain ⟨o, nh, n, cd, hJ⟩ := hJ
  have hJ : JI B Sw S Zs Sh Hs X Z o nh n cd := hJ
  have hJ0 := hJ
  obtain ⟨⟨hR, hI⟩, ⟨ho, hnh, ho6, hn6, hsv, hH⟩, hsnap, ⟨hlen, hle, hn60, hcd, hcd7, hc127⟩, h13⟩ := hJ
  have hT0 : JT X Z n cd := ⟨hlen, hle, hn60, hcd, hcd7, hc127⟩
  cases hx : pBt x 6 with
  | false =>
    refine ⟨_, _, _, _, _, _, ?_, fun sz => c_L_ifWhistled_t l hst G T sz ao f w q qz h qs t gr u tr oc Sw S Zs Sh Hs X Gg U K O x y z hx, fun sz g => c_X8_ifWhistled_1 l G T sz q8 Z g x y z (by rw [wi6 x, hx]; rfl), rfl, ?_, ?_⟩
    · decide
    · exact fun z => absurd z (by decide)
    · exact ⟨o, nh, n, cd, hJ0.keep rfl rfl rfl rfl rfl (hT0.same rfl rfl) h13⟩
  | true =>
    obtain ⟨rr, hr, err⟩ := pBt_N hx (by decide)
    subst err
    cases hy : pBt y 20 with
    | false =>
      refine ⟨_, _, _, _, _, _, ?_, fun sz => c_L_ifWhistled_t2 l hst G T sz ao f w q qz h qs t gr u tr oc Sw S Zs Sh Hs X Gg U K O rr y z hr hy, fun sz g => c_X8_ifWhistled_1 l G T sz q8 Z g (nI rr) y z (by rw [wi20 y, hy, Bool.and_false]), rfl, ?_, ?_⟩
      · decide
      · exact fun z => absurd z (by decide)
      · exact ⟨o, nh, n, cd, hJ0.keep rfl rfl rfl rfl rfl (hT0.same rfl rfl) h13⟩
    | true =>
      obtain ⟨mm, hm, emm⟩ := pBt_N hy (by decide)
      subst emm
      cases hz : pBt z 4 with
      | false =>
        refine ⟨_, _, _, _, _, _, ?_, fun sz => c_L_ifWhistled_t3 l hst G T sz ao f w q qz h qs t gr u tr oc Sw S Zs Sh Hs X Gg U K O rr mm z hr hm hz, fun sz g => c_X8_ifWhistled_2 l G T sz q8 Z g rr mm z hr hm (by rw [wi4 z]; exact hz), rfl, ?_, ?_⟩
        · decide
        · exact fun z => absurd z (by decide)
        · exact ⟨o, nh, n, cd, hJ0.keep rfl rfl rfl rfl rfl (hT0.same rfl rfl) h13⟩
      | true =>
        obtain ⟨jj, hj, ejj⟩ := pBt_N hz (by decide)
        subst ejj
        refine ⟨_, _, _, _, _, _, ?_, fun sz => c_L_ifWhistled l hst G T sz ao f w q qz h qs t gr u tr oc Sw S Zs Sh Hs X Gg U K O rr mm jj hr hm hj, fun sz g => c_X8_ifWhistled l G T sz q8 Z g rr mm jj hr hm (by omega), rfl, ?_, ?_⟩
        · decide
        · exact fun _ => (updL_at f _).trans (congrArg Int32.toInt64 (if_eq (Y := sc Z 0 (nI 0)) hR hI hr hm hj))
        · exact ⟨o, nh, n, cd, hJ0.keep rfl rfl rfl rfl rfl (hT0.same rfl rfl) h13⟩
set_option maxHeartbeats 4000000 in
theorem st_bestRoom (l : Launch) (hst : l.stackTraces = false) (G : va_G) (T : Nat → ClassId) (a : CA) (ao : Nat) (q8 : Nat → Nat) {B : Nat} (hB : B + 100 < 2 ^ 27) (f : Nat → Int64) (c : CC) (Z : Nat → Nat → Int32) (x : Int32) (hJ : JX B c Z) : STp l G T a ao q8 yL_bestRoom wsL_bestRoom yX8_bestRoom wsX8_bestRoom 6 [.ref (a.1 0), .int x, .ref ao] [.ref (q8 0), .int x] B f c Z := by
  obtain ⟨w, q, qz, h, qs, t, gr, u, tr, oc⟩ := a
  obtain ⟨Sw, S, Zs, Sh, Hs, X, Gg, U, K, O⟩ := c
  obtain ⟨o, nh, n, cd, hJ⟩ := hJ
  have hJ : JI B Sw S Zs Sh Hs X Z o nh n cd := hJ
  have hJ0 := hJ
  obtain ⟨⟨hR, hI⟩, ⟨ho, hnh, ho6, hn6, hsv, hH⟩, hsnap, ⟨hlen, hle, hn60, hcd, hcd7, hc127⟩, h13⟩ := hJ
  have hT0 : JT X Z n cd := ⟨hlen, hle, hn60, hcd, hcd7, hc127⟩
  cases hx : pBt x 20 with
  | false =>
    refine ⟨_, _, _, _, _, _, ?_, fun sz => c_L_bestRoom_t l hst G T sz ao f w q qz h qs t gr u tr oc Sw S Zs Sh Hs X Gg U K O x hx, fun sz g => c_X8_bestRoom_1 l G T sz q8 Z g x (by rw [wi20 x]; exact hx), rfl, ?_, ?_⟩
    · decide
    · exact fun z => absurd z (by decide)
    · exact ⟨o, nh, n, cd, hJ0.keep rfl rfl rfl rfl rfl (hT0.same rfl rfl) h13⟩
  | true =>
    obtain ⟨mm, hm, emm⟩ := pBt_N hx (by decide)
    subst emm
    refine ⟨_, _, _, _, _, _, ?_, fun sz => c_L_bestRoom l hst G T sz ao f w q qz h qs t gr u tr oc Sw S Zs Sh Hs X Gg U K O mm hm, fun sz g => c_X8_bestRoom l G T sz q8 Z g mm hm, rfl, ?_, ?_⟩
    · decide
    · exact fun _ => (updL_at f _).trans (congrArg Int32.toInt64 ((br_eq (Y := sc Z 0 (nI 0)) hR hI hm (Nat.le_refl 6)).1))
    · exact ⟨o, nh, n, cd, hJ0.keep rfl rfl rfl rfl rfl (hT0.same rfl rfl) h13⟩
set_option maxHeartbeats 4000000 in
theorem st_undo (l : Launch) (hst : l.stackTraces = false) (G : va_G) (T : Nat → ClassId) (a : CA) (ao : Nat) (q8 : Nat → Nat) {B : Nat} (hB : B + 100 < 2 ^ 27) (f : Nat → Int64) (c : CC) (Z : Nat → Nat → Int32) (hJ : JX B c Z) : STp l G T a ao q8 yL_undo wsL_undo yX8_undo wsX8_undo 1 [.ref (a.1 0), .ref ao] [.ref (q8 0)] B f c Z := by
  obtain ⟨w, q, qz, h, qs, t, gr, u, tr, oc⟩ := a
  obtain ⟨Sw, S, Zs, Sh, Hs, X, Gg, U, K, O⟩ := c
  obtain ⟨o, nh, n, cd, hJ⟩ := hJ
  have hJ : JI B Sw S Zs Sh Hs X Z o nh n cd := hJ
  have hJ0 := hJ
  obtain ⟨⟨hR, hI⟩, ⟨ho, hnh, ho6, hn6, hsv, hH⟩, hsnap, ⟨hlen, hle, hn60, hcd, hcd7, hc127⟩, h13⟩ := hJ
  have hT0 : JT X Z n cd := ⟨hlen, hle, hn60, hcd, hcd7, hc127⟩
  by_cases h0 : nh = 0
  · rw [h0] at hnh hsv
    refine ⟨_, _, _, _, _, _, ?_, fun sz => c_L_undo_t l hst G T sz ao f w q qz h qs t gr u tr oc Sw S Zs Sh Hs X Gg U K O hnh, fun sz g => c_X8_undo_0 l G T sz q8 Z g hsv, rfl, ?_, ?_⟩
    · decide
    · exact fun z => absurd z (by decide)
    · exact ⟨o, nh, n, cd, hJ0.keep rfl rfl rfl rfl rfl (hT0.same rfl rfl) h13⟩
  · skip
    refine ⟨_, _, _, _, _, _, ?_, fun sz => c_L_undo l hst G T sz ao f w q qz h qs t gr u tr oc Sw S Zs Sh Hs X Gg U K O o nh ho hnh ho6 hn6 (by omega), fun sz g => c_X8_undo l G T sz q8 Z g nh hsv hn6 h0, rfl, ?_, ?_⟩
    · decide
    · exact fun _ => (updL_at f _).trans (congrArg Int32.toInt64 (rfl))
    · exact ⟨o, nh - 1, n, cd, hJ0.undo (by omega) rfl rfl rfl rfl rfl (hT0.same rfl rfl) h13⟩
set_option maxHeartbeats 4000000 in
theorem st_restore (l : Launch) (hst : l.stackTraces = false) (G : va_G) (T : Nat → ClassId) (a : CA) (ao : Nat) (q8 : Nat → Nat) {B : Nat} (hB : B + 100 < 2 ^ 27) (f : Nat → Int64) (c : CC) (Z : Nat → Nat → Int32) (hJ : JX B c Z) : STp l G T a ao q8 yL_restore wsL_restore yX8_restore wsX8_restore 1 [.ref (a.1 0), .ref ao] [.ref (q8 0)] B f c Z := by
  obtain ⟨w, q, qz, h, qs, t, gr, u, tr, oc⟩ := a
  obtain ⟨Sw, S, Zs, Sh, Hs, X, Gg, U, K, O⟩ := c
  obtain ⟨o, nh, n, cd, hJ⟩ := hJ
  have hJ : JI B Sw S Zs Sh Hs X Z o nh n cd := hJ
  have hJ0 := hJ
  obtain ⟨⟨hR, hI⟩, ⟨ho, hnh, ho6, hn6, hsv, hH⟩, hsnap, ⟨hlen, hle, hn60, hcd, hcd7, hc127⟩, h13⟩ := hJ
  have hT0 : JT X Z n cd := ⟨hlen, hle, hn60, hcd, hcd7, hc127⟩
  rcases hsnap with ⟨hs1, hs2⟩ | ⟨hs1, hs2, hs3, hs4⟩
  · skip
    refine ⟨_, _, _, _, _, _, ?_, fun sz => c_L_restore_t l hst G T sz ao f w q qz h qs t gr u tr oc Sw S Zs Sh Hs X Gg U K O hs1, fun sz g => c_X8_restore_0 l G T sz q8 Z g hs2, rfl, ?_, ?_⟩
    · decide
    · exact fun z => absurd z (by decide)
    · exact ⟨o, nh, n, cd, hJ0.keep rfl rfl rfl rfl rfl (hT0.same rfl rfl) h13⟩
  · have hc2 := hs4.copy (su := Z 2) hs3
    refine ⟨_, _, _, _, _, _, ?_, fun sz => c_L_restore l hst G T sz ao f w q qz h qs t gr u tr oc Sw S Zs Sh Hs X Gg U K O o nh ho hnh ho6 hn6 hs1, fun sz g => c_X8_restore l G T sz q8 Z g nh hsv hn6 hs2, rfl, ?_, ?_⟩
    · decide
    · exact fun _ => (updL_at f _).trans (congrArg Int32.toInt64 (hc2.1.1))
    · exact ⟨hPo o nh, hPn nh, n, cd, hJ0.op hc2 (hs3.mono (by omega)) rfl rfl rfl rfl (hT0.same rfl rfl) h13⟩
