/-! calls of the class itself and the reference, alike (printed by wip/whole/mkst.py) -/
set_option maxHeartbeats 4000000 in
theorem st_bell (l : Launch) (G : va_G) (T : Nat → ClassId) (a : CA) (q8 : Nat → Nat) {B : Nat} (hB : B + 100 < 2 ^ 27) (c : CC) (Z : Nat → Nat → Int32) (hJ : JX B c Z) : STd l G T a q8 yX7_bell wsX7_bell 3 yX8_bell wsX8_bell 6 B c Z := by
  obtain ⟨w, q, qz, h, qs, t, gr, u, tr, oc⟩ := a
  obtain ⟨Sw, S, Zs, Sh, Hs, X, Gg, U, K, O⟩ := c
  obtain ⟨o, nh, n, cd, hJ⟩ := hJ
  have hJ : JI B Sw S Zs Sh Hs X Z o nh n cd := hJ
  have hJ0 := hJ
  obtain ⟨⟨hR, hI⟩, ⟨ho, hnh, ho6, hn6, hsv, hH⟩, hsnap, ⟨hlen, hle, hn60, hcd, hcd7, hc127⟩, h13⟩ := hJ
  have hT0 : JT X Z n cd := ⟨hlen, hle, hn60, hcd, hcd7, hc127⟩
  refine ⟨_, _, _, _, fun sz => w_X7_bell l G T sz w q qz h qs t gr u tr oc Sw S Zs Sh Hs X Gg U K O o nh ho hnh ho6 hn6, fun sz g => c_X8_bell l G T sz q8 Z g nh hsv hn6, ?_, ?_⟩
  · rw [rif_0, hR.1.1]
  · exact ⟨hPo o nh, hPn nh, n, cd, hJ0.op hR.bell ((hI.bell (by omega)).mono (by omega)) rfl rfl rfl rfl (hT0.same rfl rfl) h13⟩
set_option maxHeartbeats 4000000 in
theorem st_clearBuffer (l : Launch) (G : va_G) (T : Nat → ClassId) (a : CA) (q8 : Nat → Nat) {B : Nat} (hB : B + 100 < 2 ^ 27) (c : CC) (Z : Nat → Nat → Int32) (hJ : JX B c Z) : STd l G T a q8 yX7_clearBuffer wsX7_clearBuffer 1 yX8_clearBuffer wsX8_clearBuffer 0 B c Z := by
  obtain ⟨w, q, qz, h, qs, t, gr, u, tr, oc⟩ := a
  obtain ⟨Sw, S, Zs, Sh, Hs, X, Gg, U, K, O⟩ := c
  obtain ⟨o, nh, n, cd, hJ⟩ := hJ
  have hJ : JI B Sw S Zs Sh Hs X Z o nh n cd := hJ
  have hJ0 := hJ
  obtain ⟨⟨hR, hI⟩, ⟨ho, hnh, ho6, hn6, hsv, hH⟩, hsnap, ⟨hlen, hle, hn60, hcd, hcd7, hc127⟩, h13⟩ := hJ
  have hT0 : JT X Z n cd := ⟨hlen, hle, hn60, hcd, hcd7, hc127⟩
  refine ⟨_, _, _, _, fun sz => w_X7_clearBuffer l G T sz w q qz h qs t gr u tr oc Sw S Zs Sh Hs X Gg U K O n hlen hn60, fun sz g => c_X8_clearBuffer l G T sz q8 Z g, ?_, ?_⟩
  · exact hle.symm
  · exact ⟨o, nh, 0, cd, hJ0.keep rfl rfl rfl rfl rfl (JT.zero rfl rfl) h13⟩
set_option maxHeartbeats 4000000 in
theorem st_firstError (l : Launch) (G : va_G) (T : Nat → ClassId) (a : CA) (q8 : Nat → Nat) {B : Nat} (hB : B + 100 < 2 ^ 27) (c : CC) (Z : Nat → Nat → Int32) (hJ : JX B c Z) : STd l G T a q8 yX7_firstError wsX7_firstError 9 yX8_firstError wsX8_firstError 5 B c Z := by
  obtain ⟨w, q, qz, h, qs, t, gr, u, tr, oc⟩ := a
  obtain ⟨Sw, S, Zs, Sh, Hs, X, Gg, U, K, O⟩ := c
  obtain ⟨o, nh, n, cd, hJ⟩ := hJ
  have hJ : JI B Sw S Zs Sh Hs X Z o nh n cd := hJ
  have hJ0 := hJ
  obtain ⟨⟨hR, hI⟩, ⟨ho, hnh, ho6, hn6, hsv, hH⟩, hsnap, ⟨hlen, hle, hn60, hcd, hcd7, hc127⟩, h13⟩ := hJ
  have hT0 : JT X Z n cd := ⟨hlen, hle, hn60, hcd, hcd7, hc127⟩
  have hend := fe_end (cd := cd) (L := n) (s0 := zFE Z 0) hn60 hc127 (Nat.zero_le n) rfl
  have hfin : (rpS9 cd n (fe cd n (zFE Z 0) n)).2.2.2.2.1 = nI (nOf (rpS9 cd n (fe cd n (zFE Z 0) n)).2.2.2.2.1) ∧ nOf (rpS9 cd n (fe cd n (zFE Z 0) n)).2.2.2.2.1 ≤ 9 := rp_I (cd := cd) (L := n) (s := fe cd n (zFE Z 0) n) (fe_le (s0 := zFE Z 0) (Nat.zero_le n) n) (fe_I (s0 := zFE Z 0) (Nat.zero_le n) ⟨h13.1, h13.2⟩ n)
  refine ⟨_, _, _, _, fun sz => w_X7_firstError l G T sz w q qz h qs t gr u tr oc Sw S Zs Sh Hs X Gg U K O n cd hlen hn60 hcd hc127, fun sz g => c_X8_firstError l G T sz q8 Z g n cd (zFE Z 0) hle hcd7 hc127 hn60 rfl, ?_, ?_⟩
  · by_cases hfv : feV cd n (fe cd n (zFE Z 0) n) = -1
    · rw [if_pos hfv, (hend.1 hfv).1]
    · rw [if_neg hfv, (hend.2 hfv).1]
  · exact ⟨o, nh, n, cd, hJ0.keep rfl rfl rfl rfl rfl (hT0.same rfl rfl) hfin⟩
set_option maxHeartbeats 4000000 in
theorem st_tuneError (l : Launch) (G : va_G) (T : Nat → ClassId) (a : CA) (q8 : Nat → Nat) {B : Nat} (hB : B + 100 < 2 ^ 27) (c : CC) (Z : Nat → Nat → Int32) (hJ : JX B c Z) : STd l G T a q8 yX7_tuneError wsX7_tuneError 9 yX8_tuneError wsX8_tuneError 4 B c Z := by
  obtain ⟨w, q, qz, h, qs, t, gr, u, tr, oc⟩ := a
  obtain ⟨Sw, S, Zs, Sh, Hs, X, Gg, U, K, O⟩ := c
  obtain ⟨o, nh, n, cd, hJ⟩ := hJ
  have hJ : JI B Sw S Zs Sh Hs X Z o nh n cd := hJ
  have hJ0 := hJ
  obtain ⟨⟨hR, hI⟩, ⟨ho, hnh, ho6, hn6, hsv, hH⟩, hsnap, ⟨hlen, hle, hn60, hcd, hcd7, hc127⟩, h13⟩ := hJ
  have hT0 : JT X Z n cd := ⟨hlen, hle, hn60, hcd, hcd7, hc127⟩
  have hIv := rtE_I (cd := cd) (L := n) (a := 0) (t := Z 13) (o := Z 15) (Nat.zero_le n)
  refine ⟨_, _, _, _, fun sz => w_X7_tuneError l G T sz w q qz h qs t gr u tr oc Sw S Zs Sh Hs X Gg U K O n cd hlen hn60 hcd hc127, fun sz g => c_X8_tuneError l G T sz q8 Z g n cd hle hcd7 hc127 hn60, ?_, ?_⟩
  · rw [tu_er (Z 13) (Z 15) hc127]
    cases hb : tuB cd n Z with
    | false => rw [if_neg (by decide)]
    | true =>
      rw [if_pos rfl]
      unfold tuB at hb
      rw [Bool.and_eq_true, decide_eq_true_eq] at hb
      rw [hb.2]
  · exact ⟨o, nh, n, cd, hJ0.keep rfl rfl rfl rfl rfl (hT0.same rfl rfl) (good13 hIv.2.1)⟩
set_option maxHeartbeats 4000000 in
theorem st_keep (l : Launch) (G : va_G) (T : Nat → ClassId) (a : CA) (q8 : Nat → Nat) {B : Nat} (hB : B + 100 < 2 ^ 27) (c : CC) (Z : Nat → Nat → Int32) (hJ : JX B c Z) : STd l G T a q8 yX7_keep wsX7_keep 2 yX8_keep wsX8_keep 0 B c Z := by
  obtain ⟨w, q, qz, h, qs, t, gr, u, tr, oc⟩ := a
  obtain ⟨Sw, S, Zs, Sh, Hs, X, Gg, U, K, O⟩ := c
  obtain ⟨o, nh, n, cd, hJ⟩ := hJ
  have hJ : JI B Sw S Zs Sh Hs X Z o nh n cd := hJ
  have hJ0 := hJ
  obtain ⟨⟨hR, hI⟩, ⟨ho, hnh, ho6, hn6, hsv, hH⟩, hsnap, ⟨hlen, hle, hn60, hcd, hcd7, hc127⟩, h13⟩ := hJ
  have hT0 : JT X Z n cd := ⟨hlen, hle, hn60, hcd, hcd7, hc127⟩
  refine ⟨_, _, _, _, fun sz => w_X7_keep l G T sz w q qz h qs t gr u tr oc Sw S Zs Sh Hs X Gg U K O, fun sz g => c_X8_keep l G T sz q8 Z g, ?_, ?_⟩
  · exact hR.1.1
  · refine ⟨o, nh, n, cd, ⟨hR, hI.mono (by omega)⟩, ⟨ho, hnh, ho6, hn6, hsv, hH.mono (by omega)⟩, Or.inr ⟨rfl, rfl, hI.mono (by omega), hR.copy hI⟩, hT0.same rfl rfl, h13⟩
set_option maxHeartbeats 4000000 in
/-- the share: both double values are one, and no NaN -/
theorem st_share (l : Launch) (G : va_G) (T : Nat → ClassId) (a : CA) (q8 : Nat → Nat) {B : Nat} (hB : B + 100 < 2 ^ 27) (c : CC) (Z : Nat → Nat → Int32) (hJ : JX B c Z) : ∃ v : UInt64, FP.dcmp v v = some .eq ∧ (∀ sz : Nat, RWd l yX7_understoodShare wsX7_understoodShare 1 0 0 G T sz (oC T a c) [.ref (a.1 0)] v (oC T a c)) ∧ (∀ (sz : Nat) (g : Int64), RWd l yX8_understoodShare wsX8_understoodShare 5 0 0 G T sz (oX8 T q8 Z g) [.ref (q8 0)] v (oX8 T q8 (sc Z 0 (nI 0)) g)) ∧ JX (B + 100) c (sc Z 0 (nI 0)) := by
  obtain ⟨w, q, qz, h, qs, t, gr, u, tr, oc⟩ := a
  obtain ⟨Sw, S, Zs, Sh, Hs, X, Gg, U, K, O⟩ := c
  obtain ⟨o, nh, n, cd, hJ⟩ := hJ
  have hJ : JI B Sw S Zs Sh Hs X Z o nh n cd := hJ
  have hJ0 := hJ
  obtain ⟨⟨hR, hI⟩, ⟨ho, hnh, ho6, hn6, hsv, hH⟩, hsnap, ⟨hlen, hle, hn60, hcd, hcd7, hc127⟩, h13⟩ := hJ
  have hT0 : JT X Z n cd := ⟨hlen, hle, hn60, hcd, hcd7, hc127⟩
  have he := (share_eq (Z := sc Z 0 (nI 0)) hR hI (by omega)).1
  refine ⟨mSh9 (sc Z 0 (nI 0)), mShare_n _ _, fun sz => ?_, fun sz g => c_X8_understoodShare l G T sz q8 Z g, o, nh, n, cd, hJ0.keep rfl rfl rfl rfl rfl (hT0.same rfl rfl) h13⟩
  rw [← he]
  exact w_X7_understoodShare l G T sz w q qz h qs t gr u tr oc Sw S Zs Sh Hs X Gg U K O
set_option maxHeartbeats 4000000 in
theorem st_digest (l : Launch) (G : va_G) (T : Nat → ClassId) (a : CA) (q8 : Nat → Nat) {B : Nat} (hB : B + 100 < 2 ^ 27) (c : CC) (Z : Nat → Nat → Int32) (hJ : JX B c Z) : ∃ (v : Int64) (c' : CC) (Z' : Nat → Nat → Int32), (∀ sz : Nat, RWl l yX7_digest wsX7_digest 7 0 0 G T sz (oC T a c) [.ref (a.1 0)] v (oC T a c')) ∧ (∀ (sz : Nat) (g : Int64), RWl l yX8_digest wsX8_digest 7 0 0 G T sz (oX8 T q8 Z g) [.ref (q8 0)] v (oX8 T q8 Z' v)) ∧ JX (B + 100) c' Z' := by
  obtain ⟨w, q, qz, h, qs, t, gr, u, tr, oc⟩ := a
  obtain ⟨Sw, S, Zs, Sh, Hs, X, Gg, U, K, O⟩ := c
  obtain ⟨o, nh, n, cd, hJ⟩ := hJ
  have hJ : JI B Sw S Zs Sh Hs X Z o nh n cd := hJ
  have hJ0 := hJ
  obtain ⟨⟨hR, hI⟩, ⟨ho, hnh, ho6, hn6, hsv, hH⟩, hsnap, ⟨hlen, hle, hn60, hcd, hcd7, hc127⟩, h13⟩ := hJ
  have hT0 : JT X Z n cd := ⟨hlen, hle, hn60, hcd, hcd7, hc127⟩
  have htl : ∀ i : Nat, i < 20 → S 6 i = nI (tlF S i) := fun i hi => (ln_eq hR hI hi).2.2
  have htl8 : ∀ i : Nat, i < 20 → tlF S i ≤ 8 := fun i hi => (ln_eq hR hI hi).2.1
  have hln : ∀ i : Nat, i < 20 → Z 2 (47 + 11 * i) = nI (tlF S i) := fun i hi => (ln_eq hR hI hi).1
  have hbs := (share_eq (Z := Z) hR hI (by omega)).2
  have he := dg_eq (Z := sc Z 0 (nI 0)) (cd := cd) (n := n) hR hI (by omega) (nh := nh) hsv hcd7
  refine ⟨mDg (sc Z 0 (nI 0)) (tlF S) n, (Sw, S, Zs, Sh, Hs, X, Gg, U, gTr K S (tlF S), cO3 (cO2 O S 20) S 6), sc Z 0 (nI 0), fun sz => ?_, fun sz g => c_X8_digest l G T sz q8 Z g n (tlF S) hle hn60 hln htl8, o, nh, n, cd, hJ0.keep rfl rfl rfl rfl rfl (hT0.same rfl rfl) h13⟩
  rw [← he]
  exact c_X7_digest l G T sz w q qz h qs t gr u tr oc Sw S Zs Sh Hs X Gg U K O n cd (tlF S) o nh hlen hn60 hcd hc127 htl htl8 ho hnh ho6 hn6 hbs
