/-! the law: 82b.law1 (printed by wip/p33/slaw.py) -/
section LAW
variable {p : Program} {l : Launch} {e : Env} {s : State} {m : MethodId} {below : List Frame} {meth : Method} {c : Code} {b L : Nat} {xs : Nat → Int32} {G : va_G} {T : Nat → ClassId} {A : Nat → Prop} {a9 : CA} {aq at9 ar ab : Nat} {Q : State → Prop}
set_option maxHeartbeats 16000000 in
set_option maxRecDepth 100000 in
/-- a turn's kind -/
theorem law_1 (E : lwE l p s m c b L xs G T A) {i B cells slots : Nat} (hi : i < 50) (hB : 12 * (B + 2) < 2 ^ 31) (hcs : cells + 2 ≤ 600130 ∧ slots + 12 ≤ 7301080) (c9 : CC) {fq ft fr fb : Nat → Int32} {tn : Nat → Nat} (x9 y9 : Int32) {H : Heap} {locs : List Loc} {ls : Array Slot} (hP : va_P G vwCl (lwW T aq at9 ar ab fq ft fr fb a9 c9) H) (hD : va_D A (lwW T aq at9 ar ab fq ft fr fb a9 c9)) (hS : va_S A s.heap H locs) (hl : lv_has ls 16 [(8, .int y9), (7, .int x9), (0, .ref b), (1, .ref (a9.1 0)), (2, .ref aq), (3, .ref at9), (4, .ref ar), (5, .ref ab), (6, .int (nI i))]) (kk : ∀ (ls : Array Slot) (kd : Nat), kd < 9 → lv_has ls 16 [(9, .int (nI kd)), (8, .int y9), (7, .int x9), (0, .ref b), (1, .ref (a9.1 0)), (2, .ref aq), (3, .ref at9), (4, .ref ar), (5, .ref ab), (6, .int (nI i))] → W p l e room_1 s m #[Value.ref b] below meth c H locs cells slots Q (F0 m 200 ls [])) : W p l e room_1 s m #[Value.ref b] below meth c H locs cells slots Q (F0 m 91 ls []) := by
  obtain ⟨hx, hb, hml, hown, hts, hX, hbl, hbA, hA, hst, hK, hE, hgC, hgN⟩ := E
  have cx : CallFix p m c cL_law 16 s #[Value.ref b] wsLw RL := ⟨hx, hb, hml, hown, hts⟩
  have hlo := loN_lt x9 (n := 32) (by decide)
  have hkl := laK_lt i (loN x9 32)
  refine lv_iload hx hb dL_law_91 (lv_at hl 1 rfl) ?_
  refine lv_bipush (v := nI 32) hx hb dL_law_93 (by decide) ?_
  refine k_roS (As := [.int x9, .int (nI 32)]) (rest := []) (wc := []) (d := 0) (v := nI (loN x9 32)) cx (c_L_low l G T A x9 32 (by omega) (by omega)) (va_cwS 2 hts hL_L_low rfl rfl rfl (by decide +kernel) ⟨Nat.le_of_ble_eq_true rfl, Nat.le_of_ble_eq_true rfl⟩) (hP.sub (ws' := []) [] rfl) hK (hE.kept hS.2.1) rfl hl.1 rfl (Nat.le_of_ble_eq_true rfl) dL_law_95 ⟨by show _ ≤ 600130; omega, by show _ ≤ 7301080; omega⟩ ?_
  refine lv_istore (lv' := [(9, .int (nI (loN x9 32))), (8, .int y9), (7, .int x9), (0, .ref b), (1, .ref (a9.1 0)), (2, .ref aq), (3, .ref at9), (4, .ref ar), (5, .ref ab), (6, .int (nI i))]) hx hb dL_law_98 hl (by decide) rfl (fun ls hl => ?_)
  refine lv_iload hx hb dL_law_100 (lv_at hl 9 rfl) ?_
  refine n_iconst hx hb 4 dL_law_102 (by decide) ?_
  have J_1 : ∀ y7 : Int32, y7 = (nI (laK i (loN x9 32))) → W p l e room_1 s m #[Value.ref b] below meth c H locs cells slots Q (F0 m 198 ls (.int y7 :: [])) := by
    intro y7 hy7
    subst hy7
    refine lv_istore (lv' := [(9, .int (nI (laK i (loN x9 32)))), (8, .int y9), (7, .int x9), (0, .ref b), (1, .ref (a9.1 0)), (2, .ref aq), (3, .ref at9), (4, .ref ar), (5, .ref ab), (6, .int (nI i))]) hx hb dL_law_198 hl (by decide) rfl (fun ls hl => ?_)
    exact kk _ _ hkl hl
  refine n_icmp_lt (a := i) (b := 4) (tgt := 113) hx hb (by omega) (by decide) dL_law_103 (by decide) (fun c_2 => ?_) (fun c_3 => ?_)
  · skip
    refine n_iconst hx hb 0 dL_law_113 (by decide) ?_
    refine lv_goto (tgt := 198) hx hb dL_law_114 (by decide) ?_
    exact J_1 _ (by unfold laK; repeat (first | rw [if_pos (by omega)] | rw [if_neg (by omega)]))
  · skip
    refine lv_iload hx hb dL_law_106 (lv_at hl 0 rfl) ?_
    refine lv_bipush (v := nI 6) hx hb dL_law_108 (by decide) ?_
    refine n_icmp_ge (a := loN x9 32) (b := 6) (tgt := 117) hx hb (by omega) (by decide) dL_law_110 (by decide) (fun c_4 => ?_) (fun c_5 => ?_)
    · skip
      refine lv_iload hx hb dL_law_117 (lv_at hl 0 rfl) ?_
      refine lv_bipush (v := nI 18) hx hb dL_law_119 (by decide) ?_
      refine n_icmp_ge (a := loN x9 32) (b := 18) (tgt := 128) hx hb (by omega) (by decide) dL_law_121 (by decide) (fun c_6 => ?_) (fun c_7 => ?_)
      · skip
        refine lv_iload hx hb dL_law_128 (lv_at hl 0 rfl) ?_
        refine lv_bipush (v := nI 21) hx hb dL_law_130 (by decide) ?_
        refine n_icmp_ge (a := loN x9 32) (b := 21) (tgt := 139) hx hb (by omega) (by decide) dL_law_132 (by decide) (fun c_8 => ?_) (fun c_9 => ?_)
        · skip
          refine lv_iload hx hb dL_law_139 (lv_at hl 0 rfl) ?_
          refine lv_bipush (v := nI 23) hx hb dL_law_141 (by decide) ?_
          refine n_icmp_ge (a := loN x9 32) (b := 23) (tgt := 150) hx hb (by omega) (by decide) dL_law_143 (by decide) (fun c_10 => ?_) (fun c_11 => ?_)
          · skip
            refine lv_iload hx hb dL_law_150 (lv_at hl 0 rfl) ?_
            refine lv_bipush (v := nI 25) hx hb dL_law_152 (by decide) ?_
            refine n_icmp_ge (a := loN x9 32) (b := 25) (tgt := 161) hx hb (by omega) (by decide) dL_law_154 (by decide) (fun c_12 => ?_) (fun c_13 => ?_)
            · skip
              refine lv_iload hx hb dL_law_161 (lv_at hl 0 rfl) ?_
              refine lv_bipush (v := nI 27) hx hb dL_law_163 (by decide) ?_
              refine n_icmp_ge (a := loN x9 32) (b := 27) (tgt := 172) hx hb (by omega) (by decide) dL_law_165 (by decide) (fun c_14 => ?_) (fun c_15 => ?_)
              · skip
                refine lv_iload hx hb dL_law_172 (lv_at hl 0 rfl) ?_
                refine lv_bipush (v := nI 30) hx hb dL_law_174 (by decide) ?_
                refine n_icmp_ge (a := loN x9 32) (b := 30) (tgt := 184) hx hb (by omega) (by decide) dL_law_176 (by decide) (fun c_16 => ?_) (fun c_17 => ?_)
                · skip
                  refine lv_iload hx hb dL_law_184 (lv_at hl 0 rfl) ?_
                  refine lv_bipush (v := nI 30) hx hb dL_law_186 (by decide) ?_
                  refine n_icmp_ne (a := loN x9 32) (b := 30) (tgt := 196) hx hb (by omega) (by decide) dL_law_188 (by decide) (fun c_18 => ?_) (fun c_19 => ?_)
                  · skip
                    refine lv_bipush (v := nI 8) hx hb dL_law_196 (by decide) ?_
                    exact J_1 _ (by unfold laK; repeat (first | rw [if_pos (by omega)] | rw [if_neg (by omega)]))
                  · skip
                    refine lv_bipush (v := nI 7) hx hb dL_law_191 (by decide) ?_
                    refine lv_goto (tgt := 198) hx hb dL_law_193 (by decide) ?_
                    exact J_1 _ (by unfold laK; repeat (first | rw [if_pos (by omega)] | rw [if_neg (by omega)]))
                · skip
                  refine lv_bipush (v := nI 6) hx hb dL_law_179 (by decide) ?_
                  refine lv_goto (tgt := 198) hx hb dL_law_181 (by decide) ?_
                  exact J_1 _ (by unfold laK; repeat (first | rw [if_pos (by omega)] | rw [if_neg (by omega)]))
              · skip
                refine n_iconst hx hb 5 dL_law_168 (by decide) ?_
                refine lv_goto (tgt := 198) hx hb dL_law_169 (by decide) ?_
                exact J_1 _ (by unfold laK; repeat (first | rw [if_pos (by omega)] | rw [if_neg (by omega)]))
            · skip
              refine n_iconst hx hb 4 dL_law_157 (by decide) ?_
              refine lv_goto (tgt := 198) hx hb dL_law_158 (by decide) ?_
              exact J_1 _ (by unfold laK; repeat (first | rw [if_pos (by omega)] | rw [if_neg (by omega)]))
          · skip
            refine n_iconst hx hb 3 dL_law_146 (by decide) ?_
            refine lv_goto (tgt := 198) hx hb dL_law_147 (by decide) ?_
            exact J_1 _ (by unfold laK; repeat (first | rw [if_pos (by omega)] | rw [if_neg (by omega)]))
        · skip
          refine n_iconst hx hb 2 dL_law_135 (by decide) ?_
          refine lv_goto (tgt := 198) hx hb dL_law_136 (by decide) ?_
          exact J_1 _ (by unfold laK; repeat (first | rw [if_pos (by omega)] | rw [if_neg (by omega)]))
      · skip
        refine n_iconst hx hb 1 dL_law_124 (by decide) ?_
        refine lv_goto (tgt := 198) hx hb dL_law_125 (by decide) ?_
        exact J_1 _ (by unfold laK; repeat (first | rw [if_pos (by omega)] | rw [if_neg (by omega)]))
    · skip
      refine n_iconst hx hb 0 dL_law_113 (by decide) ?_
      refine lv_goto (tgt := 198) hx hb dL_law_114 (by decide) ?_
      exact J_1 _ (by unfold laK; repeat (first | rw [if_pos (by omega)] | rw [if_neg (by omega)]))
end LAW
