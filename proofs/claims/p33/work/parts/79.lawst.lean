/-! the law's calls as steps: school and numbers beside one another (printed by wip/p33/s79.py) -/
def CX (l : Launch) (y : MethodName) (wz : List Cond) (d : Nat) (G : va_G) (T : Nat → ClassId) (sz : Nat) (ws : va_W) (av : List Value) (v : Int32) (w1 : va_W) : Prop := RWi l y wz d 0 0 G T sz ws av v w1 ∨ RWx l y wz d G T sz ws av v w1
/-- WhistleTunes and the law's numbers belong together -/
def JX (B : Nat) (c9 : CC) (fq ft fr fb : Nat → Int32) (tn : Nat → Nat) : Prop := JM B c9.2.1 fq ft fr fb tn ∧ (∃ o n : Nat, c9.2.2.2.1 0 1 = nI o ∧ c9.2.2.2.1 0 2 = nI n ∧ o < 6 ∧ n ≤ 6) ∧ ∃ nx : Nat, c9.2.2.2.2.2.1 0 1 = nI nx ∧ nx ≤ 60
/-- what teach finds typed -/
def TyO (X : Nat → Nat → Int32) (kd tu : Nat) : Prop := kd = 0 → ∃ z : TyS, X = z.1 ∧ z.1 0 1 = nI z.2.1 ∧ TyG z ∧ 0 < z.2.1 ∧ z.2.1 ≤ 60 ∧ z.2.2 < 167772160 ∧ tu = z.2.2
/-- behind a call that saved the school S: what undo finds -/
def PU (c9 : CC) (S : Nat → Nat → Int32) : Prop := ∃ o n : Nat, c9.2.2.2.1 0 1 = nI o ∧ c9.2.2.2.1 0 2 = nI n ∧ o < 6 ∧ n ≤ 6 ∧ 0 < n ∧ c9.2.2.2.2.1 ((o + (n - 1)) % 6) = S
theorem pu_push {Sw S S' Z Sh X Gg U K O : Nat → Nat → Int32} {Hs : Nat → Nat → Nat → Int32} {o n : Nat} (ho : o < 6) (hn : n ≤ 6) : PU (Sw, S', Z, sc (sc Sh 1 (nI (hPo o n))) 2 (nI (hPn n)), updS Hs (hPi o n) S, X, Gg, U, K, O) S := by
  obtain ⟨h1, h2, h3, h4⟩ := hs_undo ho hn
  refine ⟨hPo o n, hPn n, rfl, rfl, h2, h3, h4, ?_⟩
  show updS Hs (hPi o n) S ((hPo o n + (hPn n - 1)) % 6) = S
  rw [h1, updS_at]
theorem vD0_no {ft : Nat → Int32} {tn : Nat → Nat} {a tu : Nat} (h : ¬ vIl tn a tu 20 = true) : vD0t ft tn a tu = ft := by
  unfold vD0t
  rw [if_neg h]
  funext i
  by_cases hi : i = a
  · rw [hi, upd_at]
  · rw [upd_no hi]
theorem n100 {n : Nat} (h : n < 2 ^ 31) : ¬ nI n < -100 := by
  intro q
  have h1 := Int32.lt_iff_toInt_lt.mp q
  rw [nI_toInt h, show (-100 : Int32).toInt = -100 by decide] at h1
  omega
theorem bc100 {x : Int32} (h : x6 x) : ¬ pBC x < -100 := by
  obtain ⟨c, hc, -, e, -⟩ := vLe_x h
  rw [e]
  exact n100 (by omega)
theorem tl_S {B : Nat} {S : Nat → Nat → Int32} (hI : SI B S) : (∀ i : Nat, i < 20 → S 6 i = nI (tlF S i)) ∧ ∀ i : Nat, i < 20 → tlF S i ≤ 8 := ⟨fun i hi => (hI.2.2.2.2.2.2.1 i hi).1.1, fun i hi => (hI.2.2.2.2.2.2.1 i hi).1.2.1⟩
theorem pVO_ok {a e : Nat} (h0 : a < 2) (h1 : a = 0 → e < 3) (h2 : a = 1 → 1 ≤ e ∧ e < 10) : pVO (nI a) (nI e) = true ∧ e < if a = 0 then 3 else 10 := by
  rcases (show a = 0 ∨ a = 1 by omega) with rfl | rfl
  · have h3 := h1 rfl
    refine ⟨?_, by rw [if_pos rfl]; exact h3⟩
    rcases (show e = 0 ∨ e = 1 ∨ e = 2 by omega) with rfl | rfl | rfl <;> decide
  · obtain ⟨h3, h4⟩ := h2 rfl
    refine ⟨?_, by rw [if_neg (by decide)]; exact h4⟩
    rcases (show e = 1 ∨ e = 2 ∨ e = 3 ∨ e = 4 ∨ e = 5 ∨ e = 6 ∨ e = 7 ∨ e = 8 ∨ e = 9 by omega) with rfl | rfl | rfl | rfl | rfl | rfl | rfl | rfl | rfl <;> decide

section STC
variable {fq ft fr fb : Nat → Int32} {tn : Nat → Nat} {B : Nat}
set_option maxHeartbeats 8000000 in
/-- what a call does, of whichever kind -/
theorem st_call (l : Launch) (hst : l.stackTraces = false) (G : va_G) (T : Nat → ClassId) (a9 : CA) (hB : B + 1 < 2 ^ 31) (c9 : CC) {kd a e tu : Nat} (hk : okA kd a e) (hJ : JX B c9 fq ft fr fb tn) (hX : TyO c9.2.2.2.2.2.1 kd tu) :
    ∃ c' : CC, (∀ sz : Nat, CX l yL_call wsL_call 15 G T sz (oC T a9 c9) [.ref (a9.1 0), .int (nI kd), .int (nI a), .int (nI e)] (dV fq ft fr fb tn kd a e tu) (oC T a9 c')) ∧ JX (B + 1) c' (dQ fq ft fr fb tn kd a e tu) (dT fq ft fr fb tn kd a e tu) (dR fq ft fr fb tn kd a e tu) (dBb fq ft fr fb tn kd a e tu) (dN tn kd a tu) ∧ (dV fq ft fr fb tn kd a e tu = -103 ∧ c'.2.1 = c9.2.1 ∨ ¬ dV fq ft fr fb tn kd a e tu < -100 ∧ PU c' c9.2.1) := by
  obtain ⟨w, q, qz, h, qs, t, gr, u, tr, oc⟩ := a9
  obtain ⟨Sw, S, Z, Sh, Hs, X, Gg, U, K, O⟩ := c9
  obtain ⟨hM, ⟨o, n, ho, hn, ho6, hn6⟩, ⟨nx, hx1, hx2⟩⟩ := hJ
  have hM : JM B S fq ft fr fb tn := hM
  have ho : Sh 0 1 = nI o := ho
  have hn : Sh 0 2 = nI n := hn
  have hx1 : X 0 1 = nI nx := hx1
  obtain ⟨hS1, hS2⟩ := tl_S hM.1
  obtain ⟨hp1, hp2, hp3, hp4⟩ := hs_undo ho6 hn6
  obtain ⟨k9, ka, ke, k1, k2, k3, k5, k6, k7⟩ := hk
  rcases (show kd = 0 ∨ kd = 1 ∨ kd = 2 ∨ kd = 3 ∨ kd = 4 ∨ kd = 5 ∨ kd = 6 ∨ kd = 7 ∨ kd = 8 by omega) with rfl | rfl | rfl | rfl | rfl | rfl | rfl | rfl | rfl
  · obtain ⟨z, zX, zl, zG, z0, z60, z9, zt⟩ := hX rfl
    have zX : X = z.1 := zX
    subst zX
    subst zt
    obtain ⟨g1, g2, g3, g4, g5⟩ := zG.out z0
    have hr := jteach hM zG z0 z9 U ka
    by_cases hv : vIl tn a z.2.2 20 = true
    · have hra := hr.1.mp hv
      obtain ⟨j1, j2⟩ := hM.teach zG z0 z9 U ka hv
      have ev : dV fq ft fr fb tn 0 a e z.2.2 = nI (uMy z.2.2) := if_pos hv
      have e2 : dN tn 0 a z.2.2 = tnU tn a z.2.2 := if_pos hv
      refine ⟨(Sw, sa (sa S 6 (upd (S 6) a (nI (ntT (cdX z.1) z.2.1 U)))) 7 (va_cpy ((rTu U (cdX z.1) z.2.1) 1) (S 7) 0 (a * 8) (ntT (cdX z.1) z.2.1 U)), Z, sc (sc Sh 1 (nI (hPo o n))) 2 (nI (hPn n)), updS Hs (hPi o n) S, sc z.1 1 (nI 0), gGr Gg (cdX z.1) z.2.1 4 false, (rTu U (cdX z.1) z.2.1), gTO K S (tlF S) (ntT (cdX z.1) z.2.1 U), O), fun sz => Or.inl ?_, ?_, Or.inr ⟨?_, pu_push ho6 hn6⟩⟩
      · rw [ev, ← j2]
        exact c_L_call_0 l G T sz w q qz h qs t gr u tr oc Sw S Z Sh Hs z.1 Gg U K O z.2.1 (cdX z.1) (tlF S) o n a e zl z60 g1 g2 hS1 hS2 ho hn ho6 hn6 ka g3 hra
      · rw [e2]
        exact ⟨j1.mono (Nat.le_succ B), ⟨hPo o n, hPn n, rfl, rfl, hp2, hp3⟩, ⟨0, rfl, by decide⟩⟩
      · rw [ev]
        have := uMy_9 z9
        exact n100 (by omega)
    · have hra : ¬ pRA S (tlF S) (rTu U (cdX z.1) z.2.1) (ntT (cdX z.1) z.2.1 U) a = nI 0 := fun q => hv (hr.1.mpr q)
      have ev : dV fq ft fr fb tn 0 a e z.2.2 = -103 := if_neg hv
      have e2 : dN tn 0 a z.2.2 = tn := if_neg hv
      have e3 : dT fq ft fr fb tn 0 a e z.2.2 = ft := vD0_no hv
      refine ⟨(Sw, S, Z, Sh, Hs, z.1, gGr Gg (cdX z.1) z.2.1 4 false, (rTu U (cdX z.1) z.2.1), gTO K S (tlF S) (ntT (cdX z.1) z.2.1 U), O), fun sz => Or.inr ?_, ?_, Or.inl ⟨ev, rfl⟩⟩
      · rw [ev]
        exact c_L_call_0n l hst G T sz w q qz h qs t gr u tr oc Sw S Z Sh Hs z.1 Gg U K O z.2.1 (cdX z.1) (tlF S) a e zl z60 g1 g2 hS1 hS2 ka g3 hra
      · rw [e2, e3]
        exact ⟨hM.mono (Nat.le_succ B), ⟨o, n, ho, hn, ho6, hn6⟩, ⟨nx, hx1, hx2⟩⟩
  · have k1 := k1 rfl
    have hw := jwy hM k1 ke
    by_cases hv : vWy fq fr tn a e = nI 0
    · have hwhy : pWhy S a e = 0 := hw.trans (hv.trans nI_0)
      have j1 := hM.wh k1 ke hB O
      obtain ⟨j2, j3, j4⟩ := jwh hM k1 ke
      have e1 : dV fq ft fr fb tn 1 a e tu = pBC ((vW5 fq fr fb a e) 9) := if_pos hv
      have e2 : dQ fq ft fr fb tn 1 a e tu = vWq fq fr fb a e := if_pos hv
      have e3 : dT fq ft fr fb tn 1 a e tu = vWt fq ft fr fb a e := if_pos hv
      have e4 : dR fq ft fr fb tn 1 a e tu = vWr fq fr fb a e := if_pos hv
      refine ⟨(Sw, pRem S (pFor O S a e) a e, Z, sc (sc Sh 1 (nI (hPo o n))) 2 (nI (hPn n)), updS Hs (hPi o n) S, X, Gg, U, K, pFor O S a e), fun sz => Or.inl ?_, ?_, Or.inr ⟨?_, pu_push ho6 hn6⟩⟩
      · rw [e1, ← j2]
        exact c_L_call_1 l G T sz w q qz h qs t gr u tr oc Sw S Z Sh Hs X Gg U K O o n a e ho hn ho6 hn6 k1 ke hwhy
      · rw [e2, e3, e4]
        exact ⟨j1, ⟨hPo o n, hPn n, rfl, rfl, hp2, hp3⟩, ⟨nx, hx1, hx2⟩⟩
      · rw [e1, w5_9]
        exact bc100 (jx1 hM k1 e)
    · have hwhy : ¬ pWhy S a e = 0 := fun q => hv (hw.symm.trans (q.trans nI_0.symm))
      have e1 : dV fq ft fr fb tn 1 a e tu = -103 := if_neg hv
      have e2 : dQ fq ft fr fb tn 1 a e tu = fq := if_neg hv
      have e3 : dT fq ft fr fb tn 1 a e tu = ft := if_neg hv
      have e4 : dR fq ft fr fb tn 1 a e tu = fr := if_neg hv
      refine ⟨(Sw, S, Z, Sh, Hs, X, Gg, U, K, O), fun sz => Or.inr ?_, ?_, Or.inl ⟨e1, rfl⟩⟩
      · rw [e1]
        exact c_L_call_1n l hst G T sz w q qz h qs t gr u tr oc Sw S Z Sh Hs X Gg U K O a e k1 ke hwhy
      · rw [e2, e3, e4]
        exact ⟨hM.mono (Nat.le_succ B), ⟨o, n, ho, hn, ho6, hn6⟩, ⟨nx, hx1, hx2⟩⟩
  · have k2 := k2 rfl
    have hv : S 11 a = dV fq ft fr fb tn 2 a e tu := (jm_r hM k2).1
    refine ⟨(Sw, sa S 11 (upd (S 11) a (S 0 1)), Z, sc (sc Sh 1 (nI (hPo o n))) 2 (nI (hPn n)), updS Hs (hPi o n) S, X, Gg, U, K, O), fun sz => Or.inl ?_, ⟨(hM.tell k2).mono (Nat.le_succ B), ⟨hPo o n, hPn n, rfl, rfl, hp2, hp3⟩, ⟨nx, hx1, hx2⟩⟩, Or.inr ⟨?_, pu_push ho6 hn6⟩⟩
    · show RWi l yL_call wsL_call 15 0 0 G T sz _ _ (dV fq ft fr fb tn 2 a e tu) _
      rw [← hv]
      exact c_L_call_2 l G T sz w q qz h qs t gr u tr oc Sw S Z Sh Hs X Gg U K O o n a e ho hn ho6 hn6 k2
    · rw [← hv]
      obtain ⟨g1, g2⟩ := (hM.1.2.2.2.2.2.2.2.1 a k2).1
      rw [g1]
      exact n100 (by omega)
  · have k3 := k3 rfl
    have hv : S 0 1 = dV fq ft fr fb tn 3 a e tu := (jm_0 hM).2.1
    refine ⟨(Sw, sc S 1 (nI a), Z, sc (sc Sh 1 (nI (hPo o n))) 2 (nI (hPn n)), updS Hs (hPi o n) S, X, Gg, U, K, O), fun sz => Or.inl ?_, ⟨(hM.key k3).mono (Nat.le_succ B), ⟨hPo o n, hPn n, rfl, rfl, hp2, hp3⟩, ⟨nx, hx1, hx2⟩⟩, Or.inr ⟨?_, pu_push ho6 hn6⟩⟩
    · show RWi l yL_call wsL_call 15 0 0 G T sz _ _ (dV fq ft fr fb tn 3 a e tu) _
      rw [← hv]
      exact c_L_call_3 l G T sz w q qz h qs t gr u tr oc Sw S Z Sh Hs X Gg U K O o n a e ho hn ho6 hn6 k3
    · rw [← hv]
      obtain ⟨g1, g2⟩ := hM.1.2.1
      rw [g1]
      exact n100 (by omega)
  · skip
    have hv : S 0 0 + nI 1 = dV fq ft fr fb tn 4 a e tu := (hM.bell hB).2
    refine ⟨(Sw, sa (sc (sc S 0 (S 0 0 + nI 1)) 3 (nI 0)) 12 (pBM (S 0 0 + nI 1) (S 12)), Z, sc (sc Sh 1 (nI (hPo o n))) 2 (nI (hPn n)), updS Hs (hPi o n) S, X, Gg, U, K, O), fun sz => Or.inl ?_, ⟨(hM.bell hB).1, ⟨hPo o n, hPn n, rfl, rfl, hp2, hp3⟩, ⟨nx, hx1, hx2⟩⟩, Or.inr ⟨?_, pu_push ho6 hn6⟩⟩
    · show RWi l yL_call wsL_call 15 0 0 G T sz _ _ (dV fq ft fr fb tn 4 a e tu) _
      rw [← hv]
      exact c_L_call_4 l G T sz w q qz h qs t gr u tr oc Sw S Z Sh Hs X Gg U K O o n a e ho hn ho6 hn6
    · rw [← hv]
      obtain ⟨g1, g2⟩ := hM.1.1
      rw [g1, nI_add]
      exact n100 (by omega)
  · have k5 := k5 rfl
    have hv : pBC (pLk S a (decide (e % 2 = 1))) = dV fq ft fr fb tn 5 a e tu := congrArg pBC (pLk_e hM a e)
    refine ⟨(Sw, sc S 2 (pLk S a (decide (e % 2 = 1))), Z, sc (sc Sh 1 (nI (hPo o n))) 2 (nI (hPn n)), updS Hs (hPi o n) S, X, Gg, U, K, O), fun sz => Or.inl ?_, ⟨(hM.look k5 e).1.mono (Nat.le_succ B), ⟨hPo o n, hPn n, rfl, rfl, hp2, hp3⟩, ⟨nx, hx1, hx2⟩⟩, Or.inr ⟨?_, pu_push ho6 hn6⟩⟩
    · show RWi l yL_call wsL_call 15 0 0 G T sz _ _ (dV fq ft fr fb tn 5 a e tu) _
      rw [← hv]
      exact c_L_call_5 l G T sz w q qz h qs t gr u tr oc Sw S Z Sh Hs X Gg U K O o n a e ho hn ho6 hn6 k5 ke
    · rw [← hv]
      rw [pLk_e hM a e]
      exact bc100 (hM.look k5 e).2
  · have k6 := k6 rfl
    have hv : bI (pHB (S 8 e ^^^ iShl (nI 1) (nI a)) (nI a)) = dV fq ft fr fb tn 6 a e tu := (hM.ban k6 ke).2
    refine ⟨(Sw, sa S 8 (upd (S 8) e (S 8 e ^^^ iShl (nI 1) (nI a))), Z, sc (sc Sh 1 (nI (hPo o n))) 2 (nI (hPn n)), updS Hs (hPi o n) S, X, Gg, U, K, O), fun sz => Or.inl ?_, ⟨(hM.ban k6 ke).1.mono (Nat.le_succ B), ⟨hPo o n, hPn n, rfl, rfl, hp2, hp3⟩, ⟨nx, hx1, hx2⟩⟩, Or.inr ⟨?_, pu_push ho6 hn6⟩⟩
    · show RWi l yL_call wsL_call 15 0 0 G T sz _ _ (dV fq ft fr fb tn 6 a e tu) _
      rw [← hv]
      exact c_L_call_6 l G T sz w q qz h qs t gr u tr oc Sw S Z Sh Hs X Gg U K O o n a e ho hn ho6 hn6 k6 ke
    · rw [← hv]
      cases pHB (S 8 e ^^^ iShl (nI 1) (nI a)) (nI a) <;> decide
  · have k7 := k7 rfl
    obtain ⟨hv9, hv8⟩ := pVO_ok k7.1 k7.2.1 k7.2.2
    have hv : S 5 a = dV fq ft fr fb tn 7 a e tu := by
      rcases (show a = 0 ∨ a = 1 by omega) with rfl | rfl
      · exact (jm_0 hM).2.2.2.1
      · exact (jm_0 hM).2.2.2.2
    refine ⟨(Sw, sa S 5 (upd (S 5) a (nI e)), Z, sc (sc Sh 1 (nI (hPo o n))) 2 (nI (hPn n)), updS Hs (hPi o n) S, X, Gg, U, K, O), fun sz => Or.inl ?_, ⟨(hM.set k7.1 hv8).mono (Nat.le_succ B), ⟨hPo o n, hPn n, rfl, rfl, hp2, hp3⟩, ⟨nx, hx1, hx2⟩⟩, Or.inr ⟨?_, pu_push ho6 hn6⟩⟩
    · show RWi l yL_call wsL_call 15 0 0 G T sz _ _ (dV fq ft fr fb tn 7 a e tu) _
      rw [← hv]
      exact c_L_call_7 l G T sz w q qz h qs t gr u tr oc Sw S Z Sh Hs X Gg U K O o n a e ho hn ho6 hn6 k7.1 hv9
    · rw [← hv]
      obtain ⟨-, -, -, -, ⟨g1, g2⟩, ⟨g3, g4⟩, -⟩ := hM.1
      rcases (show a = 0 ∨ a = 1 by omega) with rfl | rfl
      · rw [g1]
        exact n100 (by omega)
      · rw [g3]
        exact n100 (by omega)
  · skip
    have hv : S 6 a = dV fq ft fr fb tn 8 a e tu := (jm_m hM ka).1
    refine ⟨(Sw, sa S 6 (upd (S 6) a (nI 0)), Z, sc (sc Sh 1 (nI (hPo o n))) 2 (nI (hPn n)), updS Hs (hPi o n) S, X, Gg, U, K, O), fun sz => Or.inl ?_, ⟨(hM.forget ka).mono (Nat.le_succ B), ⟨hPo o n, hPn n, rfl, rfl, hp2, hp3⟩, ⟨nx, hx1, hx2⟩⟩, Or.inr ⟨?_, pu_push ho6 hn6⟩⟩
    · show RWi l yL_call wsL_call 15 0 0 G T sz _ _ (dV fq ft fr fb tn 8 a e tu) _
      rw [← hv]
      exact c_L_call_8 l G T sz w q qz h qs t gr u tr oc Sw S Z Sh Hs X Gg U K O o n a e ho hn ho6 hn6 ka
    · rw [← hv]
      rw [(jm_m hM ka).1]
      have := (jm_tl hM ka).2.1
      exact n100 (by omega)
set_option maxHeartbeats 8000000 in
/-- what is due of a call -/
theorem st_due (l : Launch) (G : va_G) (T : Nat → ClassId) (aq at9 ar ab : Nat) {S : Nat → Nat → Int32} {kd a e tu : Nat} (hk : okA kd a e) (hM : JM B S fq ft fr fb tn) (htu : tu < 167772160) (sz : Nat) : RWi l yL_due wsL_due 3 0 0 G T sz [(aq, .inl (T 0, 12, .inl fq)), (at9, .inl (T 0, 60, .inl ft)), (ar, .inl (T 0, 30, .inl fr)), (ab, .inl (T 0, 3, .inl fb))] [.int (nI kd), .int (nI a), .int (nI e), .int (nI tu), .ref aq, .ref at9, .ref ar, .ref ab] (dV fq ft fr fb tn kd a e tu) [(aq, .inl (T 0, 12, .inl (dQ fq ft fr fb tn kd a e tu))), (at9, .inl (T 0, 60, .inl (dT fq ft fr fb tn kd a e tu))), (ar, .inl (T 0, 30, .inl (dR fq ft fr fb tn kd a e tu))), (ab, .inl (T 0, 3, .inl (dBb fq ft fr fb tn kd a e tu)))] := by
  obtain ⟨k9, ka, ke, k1, k2, k3, k5, k6, k7⟩ := hk
  have htn := hM.2.2.1
  have htn9 : ∀ i : Nat, i < 20 → tn i < 167772160 := fun i hi => (hM.2.2.2 i hi).1
  rcases (show kd = 0 ∨ kd = 1 ∨ kd = 2 ∨ kd = 3 ∨ kd = 4 ∨ kd = 5 ∨ kd = 6 ∨ kd = 7 ∨ kd = 8 by omega) with rfl | rfl | rfl | rfl | rfl | rfl | rfl | rfl | rfl
  · exact c_L_due_0 l G T sz aq fq at9 ft ar fr ab fb tn a e tu htn htn9 htu ka
  · by_cases hv : vWy fq fr tn a e = nI 0
    · obtain ⟨j2, j3, j4⟩ := jwh hM (k1 rfl) ke
      have e1 : dV fq ft fr fb tn 1 a e tu = pBC ((vW5 fq fr fb a e) 9) := if_pos hv
      have e2 : dQ fq ft fr fb tn 1 a e tu = vWq fq fr fb a e := if_pos hv
      have e3 : dT fq ft fr fb tn 1 a e tu = vWt fq ft fr fb a e := if_pos hv
      have e4 : dR fq ft fr fb tn 1 a e tu = vWr fq fr fb a e := if_pos hv
      rw [e1, e2, e3, e4]
      exact c_L_due_1 l G T sz aq fq at9 ft ar fr ab fb tn a e tu htn htn9 htu (k1 rfl) ke hv j3 j4
    · have e1 : dV fq ft fr fb tn 1 a e tu = -103 := if_neg hv
      have e2 : dQ fq ft fr fb tn 1 a e tu = fq := if_neg hv
      have e3 : dT fq ft fr fb tn 1 a e tu = ft := if_neg hv
      have e4 : dR fq ft fr fb tn 1 a e tu = fr := if_neg hv
      rw [e1, e2, e3, e4]
      exact c_L_due_1_no l G T sz aq fq at9 ft ar fr ab fb tn a e tu htn htn9 htu (k1 rfl) ke hv
  · exact c_L_due_2 l G T sz aq fq at9 ft ar fr ab fb tn a e tu htn htn9 htu (k2 rfl)
  · exact c_L_due_3 l G T sz aq fq at9 ft ar fr ab fb tn a e tu htn htn9 htu
  · exact c_L_due_4 l G T sz aq fq at9 ft ar fr ab fb tn a e tu htn htn9 htu
  · exact c_L_due_5 l G T sz aq fq at9 ft ar fr ab fb tn a e tu htn htn9 htu (k5 rfl) ke (hM.look (k5 rfl) e).2
  · exact c_L_due_6 l G T sz aq fq at9 ft ar fr ab fb tn a e tu htn htn9 htu (k6 rfl) ke
  · exact c_L_due_7 l G T sz aq fq at9 ft ar fr ab fb tn a e tu htn htn9 htu (k7 rfl).1 ke
  · exact c_L_due_8 l G T sz aq fq at9 ft ar fr ab fb tn a e tu htn htn9 htu ka
end STC
section STI
variable {fq ft fr fb : Nat → Int32} {tn : Nat → Nat} {B : Nat}
set_option maxHeartbeats 8000000 in
/-- the law's looks hold -/
theorem st_isSo (l : Launch) (G : va_G) (T : Nat → ClassId) (a9 : CA) (aq at9 ar ab : Nat) (hB : 12 * B < 2 ^ 31) (c9 : CC) (hJ : JX B c9 fq ft fr fb tn) (xx : Int32) :
    ∃ c' : CC, (∀ sz : Nat, RWi l yL_isSo wsL_isSo 17 0 0 G T sz ([(aq, .inl (T 0, 12, .inl fq)), (at9, .inl (T 0, 60, .inl ft)), (ar, .inl (T 0, 30, .inl fr)), (ab, .inl (T 0, 3, .inl fb))] ++ oC T a9 c9) [.ref (a9.1 0), .int xx, .ref aq, .ref at9, .ref ar, .ref ab] (nI 1) ([(aq, .inl (T 0, 12, .inl fq)), (at9, .inl (T 0, 60, .inl ft)), (ar, .inl (T 0, 30, .inl fr)), (ab, .inl (T 0, 3, .inl fb))] ++ oC T a9 c')) ∧ JX B c' fq ft fr fb tn := by
  obtain ⟨w, q, qz, h, qs, t, gr, u, tr, oc⟩ := a9
  obtain ⟨Sw, S, Z, Sh, Hs, X, Gg, U, K, O⟩ := c9
  obtain ⟨hM, ⟨o, n, ho, hn, ho6, hn6⟩, ⟨nx, hx1, hx2⟩⟩ := hJ
  have hM : JM B S fq ft fr fb tn := hM
  have ho : Sh 0 1 = nI o := ho
  have hn : Sh 0 2 = nI n := hn
  have hx1 : X 0 1 = nI nx := hx1
  obtain ⟨hS1, hS2⟩ := tl_S hM.1
  have htn := hM.2.2.1
  have htn9 : ∀ i : Nat, i < 20 → tn i < 167772160 := fun i hi => (hM.2.2.2 i hi).1
  obtain ⟨zG, z0⟩ := dcE_G (iShr xx (nI 6)) tn X
  have hm20 := loN_lt (iShr (iShr xx (nI 6)) (nI 3)) (n := 20) (by decide)
  have hk7 := loN_lt (iShr xx (nI 6)) (n := 7) (by decide)
  obtain ⟨b1, b2, b3⟩ := dcE_b (xx := iShr xx (nI 6)) (tn := tn) (X := X) (htn9 _ hm20)
  obtain ⟨g1, g2, g3, g4, g5⟩ := zG.out z0
  have hd := fun U9 => jdec hM zG z0 b2 U9 hk7
  obtain ⟨q0, q1, q2, q3, q4⟩ := jm_0 hM
  have h9 := uNd_le htn9 (Nat.le_refl 20)
  refine ⟨(Sw, S, Z, Sh, Hs, xCl (dcE (iShr xx (nI 6)) tn X).1, dGg Gg (cdX (dcE (iShr xx (nI 6)) tn X).1) (dcE (iShr xx (nI 6)) tn X).2.1, dUu U (cdX (dcE (iShr xx (nI 6)) tn X).1) (dcE (iShr xx (nI 6)) tn X).2.1, dKk (gTr K S (tlF S)) S U (tlF S) (cdX (dcE (iShr xx (nI 6)) tn X).1) (dcE (iShr xx (nI 6)) tn X).2.1, vIO (pBrO O S (loN xx 20) 6) S (loN (iShr xx (nI 5)) 6) (loN (iShr xx (nI 8)) 20) 4), fun sz => ?_, ⟨hM, ⟨o, n, ho, hn, ho6, hn6⟩, ⟨0, rfl, by decide⟩⟩⟩
  exact c_L_isSo l G T sz aq fq at9 ft ar fr ab fb tn w q qz h qs t gr u tr oc Sw S Z Sh Hs X Gg U K O n nx (tlF S) (cdX (dcE (iShr xx (nI 6)) tn X).1) xx htn htn9 hS1 hS2 hn hx1 hx2 q0 q1 (congrArg nI (jc2 hM (Nat.le_refl 20))) (jnd hM) (by omega) (jc4 hM (Nat.le_refl 20)).1 q2 (jc6 hM) (congrArg nI (jc7 hM (Nat.le_refl 6))) (jm_5 hM).symm (sr_eq 6 (fun k hk => (jm_r hM hk).2.1)) (jc10 hM (Nat.le_refl 6)) q3 q4 (fun k hk => jm_l hM hk) (js1 hM hB) (js2 hM hB) (fun mm hm => jq0 hM hm) (fun mm hm => jq1 hM hm) (fun mm hm => jq2 hM hm) (fun mm hm => jq3 hM hm) (fun mm hm => jqb hM hm) (fun mm hm k hk => jqn hM hm hk) (fun mm hm k hk => jx1 hM hk mm) (fun rr hr => jr0 hM hr) (fun rr hr => jr1 hM hr) (fun rr hr => jr2 hM hr) (fun rr hr => jr3 hM hr) (fun rr hr => jr4 hM hr) (fun rr hr => jr5 hM hr) (fun rr mm hr hm => jwy hM hr hm) (fun rr mm hr hm k hk => jif hM hr hm hk) g1 g2 g3 (fun U9 => (hd U9).1) (fun U9 => (hd U9).2.1) (fun U9 => (hd U9).2.2) g4
end STI
/-- told doesn't look at how many states are saved -/
theorem cCt_n (S : Nat → Nat → Int32) (tl : Nat → Nat) (n n' k : Nat) (h : k < 13) : cCt S tl n k = cCt S tl n' k := by
  rcases (show k = 0 ∨ k = 1 ∨ k = 2 ∨ k = 3 ∨ k = 4 ∨ k = 5 ∨ 6 ≤ k by omega) with rfl | rfl | rfl | rfl | rfl | rfl | h1
  · rfl
  · rfl
  · rfl
  · rfl
  · rfl
  · rfl
  · rcases (show k = 6 ∨ k = 7 ∨ k = 8 ∨ k = 9 ∨ k = 10 ∨ k = 11 ∨ k = 12 by omega) with rfl | rfl | rfl | rfl | rfl | rfl | rfl <;> rfl
theorem tdC_n (S : Nat → Nat → Int32) (tl : Nat → Nat) (n n' k : Nat) (h : k ≤ 13) : tdC S tl n k = tdC S tl n' k := by
  induction k with
  | zero => rfl
  | succ k ih =>
    show 31 * tdC S tl n k + (cCt S tl n k).toInt64 = 31 * tdC S tl n' k + (cCt S tl n' k).toInt64
    rw [ih (by omega), cCt_n S tl n n' k (by omega)]
theorem tdV_n (S : Nat → Nat → Int32) (tl : Nat → Nat) (n n' : Nat) : tdV S tl n = tdV S tl n' := by
  unfold tdV
  rw [tdC_n S tl n n' 13 (Nat.le_refl 13)]
/-- what told tells -/
def tdT (S : Nat → Nat → Int32) : Int64 := tdV S (tlF S) 0
theorem st_told (l : Launch) (G : va_G) (T : Nat → ClassId) (a9 : CA) {B : Nat} (c9 : CC) {fq ft fr fb : Nat → Int32} {tn : Nat → Nat} (hJ : JX B c9 fq ft fr fb tn) :
    ∃ c' : CC, (∀ sz : Nat, RWl l yL_told wsL_told 8 0 0 G T sz (oC T a9 c9) [.ref (a9.1 0)] (tdT c9.2.1) (oC T a9 c')) ∧ JX B c' fq ft fr fb tn ∧ c'.2.1 = c9.2.1 ∧ c'.2.2.2.1 = c9.2.2.2.1 ∧ c'.2.2.2.2.1 = c9.2.2.2.2.1 ∧ c'.2.2.2.2.2.1 = c9.2.2.2.2.2.1 := by
  obtain ⟨w, q, qz, h, qs, t, gr, u, tr, oc⟩ := a9
  obtain ⟨Sw, S, Z, Sh, Hs, X, Gg, U, K, O⟩ := c9
  obtain ⟨hM, ⟨o, n, ho, hn, ho6, hn6⟩, hx⟩ := hJ
  have hM : JM B S fq ft fr fb tn := hM
  obtain ⟨hS1, hS2⟩ := tl_S hM.1
  refine ⟨(Sw, S, Z, Sh, Hs, X, Gg, U, gTr K S (tlF S), O), fun sz => ?_, ⟨hM, ⟨o, n, ho, hn, ho6, hn6⟩, hx⟩, rfl, rfl, rfl, rfl⟩
  have h1 := c_L_told l G T sz w q qz h qs t gr u tr oc Sw S Z Sh Hs X Gg U K O (tlF S) n hS1 hS2 hn
  rw [tdV_n S (tlF S) n 0] at h1
  exact h1
theorem st_undo (l : Launch) (G : va_G) (T : Nat → ClassId) (a9 : CA) (c9 : CC) {S0 : Nat → Nat → Int32} (hU : PU c9 S0) {nx : Nat} (hx1 : c9.2.2.2.2.2.1 0 1 = nI nx) (hx2 : nx ≤ 60) {B : Nat} {fq ft fr fb : Nat → Int32} {tn : Nat → Nat} (hM : JM B S0 fq ft fr fb tn) :
    ∃ (c' : CC) (n : Nat), n < 7 ∧ (∀ sz : Nat, RWi l yL_undo wsL_undo 4 0 0 G T sz (oC T a9 c9) [.ref (a9.1 0)] (nI n) (oC T a9 c')) ∧ JX B c' fq ft fr fb tn ∧ c'.2.1 = S0 := by
  obtain ⟨w, q, qz, h, qs, t, gr, u, tr, oc⟩ := a9
  obtain ⟨Sw, S, Z, Sh, Hs, X, Gg, U, K, O⟩ := c9
  obtain ⟨o, n, ho, hn, ho6, hn6, hn0, hH⟩ := hU
  have ho : Sh 0 1 = nI o := ho
  have hn : Sh 0 2 = nI n := hn
  have hH : Hs ((o + (n - 1)) % 6) = S0 := hH
  refine ⟨(Sw, S0, Z, sc Sh 2 (nI (n - 1)), Hs, X, Gg, U, K, O), n - 1, by omega, fun sz => ?_, ⟨hM, ⟨o, n - 1, ho, rfl, ho6, by omega⟩, ⟨nx, hx1, hx2⟩⟩, rfl⟩
  rw [← hH]
  exact c_L_undo l G T sz w q qz h qs t gr u tr oc Sw S Z Sh Hs X Gg U K O o n ho hn ho6 hn6 hn0

