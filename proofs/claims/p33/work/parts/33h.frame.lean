/-! a contract over a part of a world is one over the whole world; worlds side by side -/
theorem fr_free {wc W : va_W} {sz : Nat} {isC : List Nat} (hC : isC.map (fun i => W[i]?) = wc.map some) : ∀ q, va_A wc sz q → va_A W sz q := by
  intro q h
  rcases h with ⟨k, e, h⟩ | h
  · have h1 : (isC.map (fun i => W[i]?))[k]? = some (some (q, e)) := by rw [hC, List.getElem?_map, h]; rfl
    rw [List.getElem?_map] at h1
    cases hi : isC[k]? with
    | none => rw [hi] at h1; cases h1
    | some i => rw [hi] at h1; exact Or.inl ⟨i, e, Option.some.inj h1⟩
  · exact Or.inr h
/-- wc, wr are parts of W, apart, and W1 is a part of the rest and wc's next world -/
def Fr (W wc wr w1 W1 : va_W) : Prop := ∃ isC isR is1 : List Nat, isC.map (fun i => W[i]?) = wc.map some ∧ va_nd isC = true ∧ isR.map (fun i => W[i]?) = wr.map some ∧ va_nd isR = true ∧ (∀ i ∈ isR, i ∉ isC) ∧ is1.map (fun i => (wr ++ w1)[i]?) = W1.map some ∧ va_nd is1 = true
theorem Fr.pre {W wc wr w1 W1 : va_W} (h : Fr W wc wr w1 W1) {G : va_G} {T : Nat → ClassId} {sz : Nat} {U : State} (hU : sR G T sz W U) : sR G T sz wc U := by
  obtain ⟨isC, isR, is1, hC, hnC, -⟩ := h
  obtain ⟨h1, h2, h3, h4, h5⟩ := hU
  exact ⟨h1, kN.sub h2 hC, h3, h4.sub isC hnC hC, h5.narrow (fr_free hC)⟩
theorem Fr.free {W wc wr w1 W1 : va_W} (h : Fr W wc wr w1 W1) {sz : Nat} : ∀ q, va_A wc sz q → va_A W sz q := by
  obtain ⟨isC, isR, is1, hC, -⟩ := h
  exact fr_free hC
theorem Fr.post {W wc wr w1 W1 : va_W} (h : Fr W wc wr w1 W1) {G : va_G} {T : Nat → ClassId} {sz : Nat} {s t : State} (hU : sR G T sz W s) (hF : va_F (va_A wc sz) s t) (hP : sP G (va_A wc sz) w1 t) : sP G (va_A W sz) W1 t := by
  obtain ⟨isC, isR, is1, hC, hnC, hR, hnR, hdis, h1, hn1⟩ := h
  obtain ⟨a1, a2, a3, a4, a5⟩ := hU
  subst a1
  have hj := va_join a2 (a4.self (sz := s.heap.size)) isC isR hC hR hnR hdis hF.2 (fr_free hC) hP.1 hP.2
  exact ⟨kN.sub hj.1 h1, hj.2.sub is1 hn1 h1⟩
theorem Fr.F {W wc wr w1 W1 : va_W} (h : Fr W wc wr w1 W1) {sz : Nat} {s t : State} (hF : va_F (va_A wc sz) s t) : va_F (va_A W sz) s t := ⟨hF.1, fun q h1 h2 => hF.2 q h1 (fun z => h2 (h.free q z))⟩
section FRC
variable {l : Launch} {y : MethodName} {wz : List Cond} {d mc ms : Nat} {G : va_G} {T : Nat → ClassId} {sz : Nat} {av : List Value} {W wc wr w1 W1 : va_W}
theorem RWi.fr {v : Int32} (hM : RWi l y wz d mc ms G T sz wc av v w1) (h : Fr W wc wr w1 W1) : RWi l y wz d mc ms G T sz W av v W1 := by
  unfold RWi Met at hM ⊢
  refine Jvm.Free.MetFree.mono hM (fun a s hp => ⟨hp.1, h.pre hp.2⟩) (fun _ _ _ _ _ q => q) (fun a s o t hp hq => ?_)
  obtain ⟨⟨⟨r, u, h1, h2, h3⟩, hF⟩, L, h4, h5⟩ := hq
  exact ⟨⟨⟨r, u, h1, h2, h.post hp.2 hF h3⟩, h.F hF⟩, L, h4, fun q hq => h.free _ (h5 q hq)⟩
theorem RWl.fr {v : Int64} (hM : RWl l y wz d mc ms G T sz wc av v w1) (h : Fr W wc wr w1 W1) : RWl l y wz d mc ms G T sz W av v W1 := by
  unfold RWl Met at hM ⊢
  refine Jvm.Free.MetFree.mono hM (fun a s hp => ⟨hp.1, h.pre hp.2⟩) (fun _ _ _ _ _ q => q) (fun a s o t hp hq => ?_)
  obtain ⟨⟨⟨r, u, h1, h2, h3⟩, hF⟩, L, h4, h5⟩ := hq
  exact ⟨⟨⟨r, u, h1, h2, h.post hp.2 hF h3⟩, h.F hF⟩, L, h4, fun q hq => h.free _ (h5 q hq)⟩
theorem RWd.fr {v : UInt64} (hM : RWd l y wz d mc ms G T sz wc av v w1) (h : Fr W wc wr w1 W1) : RWd l y wz d mc ms G T sz W av v W1 := by
  unfold RWd Met at hM ⊢
  refine Jvm.Free.MetFree.mono hM (fun a s hp => ⟨hp.1, h.pre hp.2⟩) (fun _ _ _ _ _ q => q) (fun a s o t hp hq => ?_)
  obtain ⟨⟨⟨r, u, h1, h2, h3⟩, hF⟩, L, h4, h5⟩ := hq
  exact ⟨⟨⟨r, u, h1, h2, h.post hp.2 hF h3⟩, h.F hF⟩, L, h4, fun q hq => h.free _ (h5 q hq)⟩
theorem RWv.fr (hM : RWv l y wz d mc ms G T sz wc av w1) (h : Fr W wc wr w1 W1) : RWv l y wz d mc ms G T sz W av W1 := by
  unfold RWv Met at hM ⊢
  refine Jvm.Free.MetFree.mono hM (fun a s hp => ⟨hp.1, h.pre hp.2⟩) (fun _ _ _ _ _ q => q) (fun a s o t hp hq => ?_)
  obtain ⟨⟨⟨u, h1, h2, h3⟩, hF⟩, L, h4, h5⟩ := hq
  exact ⟨⟨⟨u, h1, h2, h.post hp.2 hF h3⟩, h.F hF⟩, L, h4, fun q hq => h.free _ (h5 q hq)⟩
theorem RO.fr {A : Nat → Prop} {v : Int32} {is : List Nat} (hM : RO l y wz d G T A wc av v) (h : is.map (fun i => W[i]?) = wc.map some) : RO l y wz d G T A W av v := by
  unfold RO Met at hM ⊢
  exact Jvm.Free.MetFree.mono hM (fun _ _ hp => ⟨hp.1, kN.sub hp.2.1 h, hp.2.2⟩) (fun _ _ _ _ _ q => q) (fun _ _ _ _ _ hq => hq)
end FRC
theorem Fr.mk {W wc wr w1 W1 : va_W} (isC isR is1 : List Nat) (hC : isC.map (fun i => W[i]?) = wc.map some) (hnC : va_nd isC = true) (hR : isR.map (fun i => W[i]?) = wr.map some) (hnR : va_nd isR = true) (hdis : ∀ i ∈ isR, i ∉ isC) (h1 : is1.map (fun i => (wr ++ w1)[i]?) = W1.map some) (hn1 : va_nd is1 = true) : Fr W wc wr w1 W1 := ⟨isC, isR, is1, hC, hnC, hR, hnR, hdis, h1, hn1⟩
theorem nd_of {l : List Nat} (h : l.Nodup) : va_nd l = true := by
  induction l with
  | nil => rfl
  | cons a l ih =>
    rw [List.nodup_cons] at h
    simp only [va_nd, Bool.and_eq_true, decide_eq_true_eq]
    exact ⟨h.1, ih h.2⟩
theorem rg_a (a b : va_W) : (List.range a.length).map (fun i => (a ++ b)[i]?) = a.map some := by
  refine List.ext_getElem? (fun k => ?_)
  rw [List.getElem?_map, List.getElem?_map]
  by_cases hk : k < a.length
  · rw [List.getElem?_range hk, List.getElem?_eq_getElem hk]
    show some ((a ++ b)[k]?) = some (some _)
    rw [List.getElem?_append_left hk, List.getElem?_eq_getElem hk]
  · rw [List.getElem?_eq_none (by rw [List.length_range]; omega), List.getElem?_eq_none (by omega : a.length ≤ k)]
    rfl
theorem rg_b (a b : va_W) : ((List.range b.length).map (fun i => a.length + i)).map (fun i => (a ++ b)[i]?) = b.map some := by
  rw [List.map_map]
  refine List.ext_getElem? (fun k => ?_)
  rw [List.getElem?_map, List.getElem?_map]
  by_cases hk : k < b.length
  · rw [List.getElem?_range hk, List.getElem?_eq_getElem hk]
    show some ((a ++ b)[a.length + k]?) = some (some _)
    rw [List.getElem?_append_right (by omega), Nat.add_sub_cancel_left, List.getElem?_eq_getElem hk]
  · rw [List.getElem?_eq_none (by rw [List.length_range]; omega), List.getElem?_eq_none (by omega : b.length ≤ k)]
    rfl
theorem nd_a (n : Nat) : va_nd (List.range n) = true := nd_of List.nodup_range
theorem nd_b (m n : Nat) : va_nd ((List.range n).map (fun i => m + i)) = true := by
  refine nd_of ?_
  rw [List.Nodup, List.pairwise_map]
  exact List.Pairwise.imp (fun h q => h (by omega)) (List.nodup_range (n := n))
theorem nd_app {a b : List Nat} (ha : a.Nodup) (hb : b.Nodup) (h : ∀ x ∈ a, ∀ y ∈ b, x ≠ y) : va_nd (a ++ b) = true := nd_of (List.nodup_append.mpr ⟨ha, hb, h⟩)
/-- the rest behind -/
theorem Fr.tail (w w1 R : va_W) : Fr (w ++ R) w R w1 (w1 ++ R) := by
  refine ⟨List.range w.length, (List.range R.length).map (fun i => w.length + i), (List.range w1.length).map (fun i => R.length + i) ++ List.range R.length, rg_a w R, nd_a _, rg_b w R, nd_b _ _, ?_, ?_, ?_⟩
  · intro i hi hj
    obtain ⟨k, hk, rfl⟩ := List.mem_map.mp hi
    have := List.mem_range.mp hj
    omega
  · rw [List.map_append, rg_b, rg_a, List.map_append]
  · refine nd_app ?_ List.nodup_range ?_
    · rw [List.Nodup, List.pairwise_map]
      exact List.Pairwise.imp (fun h q => h (by omega)) (List.nodup_range (n := w1.length))
    · intro x hx y hy
      obtain ⟨k, hk, rfl⟩ := List.mem_map.mp hx
      have := List.mem_range.mp hy
      omega
/-- the rest ahead -/
theorem Fr.head (R w w1 : va_W) : Fr (R ++ w) w R w1 (R ++ w1) := by
  refine ⟨(List.range w.length).map (fun i => R.length + i), List.range R.length, List.range R.length ++ (List.range w1.length).map (fun i => R.length + i), rg_b R w, nd_b _ _, rg_a R w, nd_a _, ?_, ?_, ?_⟩
  · intro i hi hj
    obtain ⟨k, hk, rfl⟩ := List.mem_map.mp hj
    have := List.mem_range.mp hi
    omega
  · rw [List.map_append, rg_a, rg_b, List.map_append]
  · refine nd_app List.nodup_range ?_ ?_
    · rw [List.Nodup, List.pairwise_map]
      exact List.Pairwise.imp (fun h q => h (by omega)) (List.nodup_range (n := w1.length))
    · intro x hx y hy
      obtain ⟨k, hk, rfl⟩ := List.mem_map.mp hy
      have := List.mem_range.mp hx
      omega
/-- a call over the whole world -/
theorem kN_full {G : va_G} {T : Nat → ClassId} {A : Nat → Prop} {s : State} {H : Heap} {locs : List Loc} {W0 : va_W} (hP : va_P G vwCl W0 H) (hD : va_D A W0) (hS : va_S A s.heap H locs) (hA : ∀ q, s.heap.size ≤ q → A q) (hE : gE A s s.heap) (hK : va_K G vwCl (tyL T) s) : kN G T A s H locs W0 W0 [] (List.range W0.length) [] := by
  have h := rg_a W0 []
  rw [List.append_nil] at h
  exact ⟨hP, hD, hS, hA, hE, hK, h, nd_a _, rfl, rfl, fun _ h => by cases h⟩

section KL0
variable {p : Program} {l : Launch} {e : Env} {R : Room} {s : State} {m : MethodId} {args : Array Value} {below : List Frame} {meth : Method} {c : Code} {H : Heap} {locs : List Loc} {cells slots : Nat} {Q : State → Prop}
variable {y : MethodName} {bytes cc : ByteArray} {maxL nL n index d : Nat} {ret : Option FieldType} {wz Ts : List Cond} {own C : String} {b : Addr} {As rest st0 : List Value} {G : va_G} {T : Nat → ClassId} {A A1 : Nat → Prop} {pc : Nat} {ls : Array Slot} {W0 : va_W} {v : Int64}
/-- a static method that has no world and answers a long -/
theorem k_rlS0 (S : CallFix p m c cc nL s args Ts own) (hM : RWl l y wz d 0 0 G T H.size [] As v []) (cw : CallB R s args own index y bytes maxL ret wz (rmD d 0 0) 0 0 n ∧ (Cond.static y).before args s = true) (hP : va_P G vwCl W0 H) (hD : va_D A W0) (hS : va_S A s.heap H locs) (hA : ∀ q, s.heap.size ≤ q → A q) (hE : gE A s s.heap) (hK : va_K G vwCl (tyL T) s)
    (hn : As.length = n) (hsz : ls.size = nL) (hst : st0 = As.reverse ++ rest) (hW : (rest.map fun v => v.category).sum ≤ 8) (hdg : decode cc pc = .ok (.invokestatic index, 3)) (hf : cells + 0 ≤ R.cells ∧ slots + 0 ≤ R.slots)
    (kk : ∀ (H1 : Heap) (locs1 : List Loc), va_P G vwCl W0 H1 → va_D A W0 → va_S A s.heap H1 locs1 → H.size ≤ H1.size → W p l e R s m args below meth c H1 locs1 (cells + 0) (slots + 0) Q (F0 m (pc + 3) ls (.long v :: rest))) : W p l e R s m args below meth c H locs cells slots Q (F0 m pc ls st0) := by
  have h0 := rg_a W0 []
  rw [List.append_nil] at h0
  have hN : kN G T A s H locs W0 [] W0 [] (List.range W0.length) := ⟨hP, hD, hS, hA, hE, hK, rfl, rfl, h0, nd_a _, fun _ _ h => by cases h⟩
  have hpre := hN.pre
  obtain ⟨hP, hD, hS, hA, hE, hK, hC, hnC, hR, hnR, hdis⟩ := hN
  have hF := va_free hD hS hA [] hC
  refine va_calll (va_runS S hM cw ⟨sR_blind, fun U hU hW1 => ⟨rfl, hpre U hU hW1⟩⟩ rfl hn hsz hst (lv_room hW) hdg hf) hS (fun q _ h => hF q h) hF (fun r u t H1 locs1 ht hvm hw hB hz hk hS1 => ?_)
  obtain ⟨hP1, hD1⟩ := hB
  rw [ht] at hP1
  obtain ⟨hP2, hD2⟩ := va_join hP hD [] (List.range W0.length) hC hR hnR hdis hk hF hP1 hD1
  rw [List.append_nil] at hP2 hD2
  rw [hw]
  exact kk H1 locs1 hP2 hD2 hS1 hz
end KL0
/-- a number compares with itself -/
theorem dc_self {d : FP.Core.Datum} (h : d ≠ .nan) : FP.Core.order d d = some .eq := by
  match d, h with
  | .nan, h => exact absurd rfl h
  | .inf s, _ => cases s <;> decide
  | .fin s c q, _ =>
    show some (compare _ _) = some .eq
    congr 1
    simp [compare, compareOfLessAndEq]
theorem n64_self {x : UInt64} (h : vf_n64 x) : FP.dcmp x x = some .eq := by
  refine dc_self (d := FP.Core.decode FP.Core.b64 x.toNat) (fun q => ?_)
  unfold vf_n64 at h
  rw [UInt64.le_iff_toNat_le, UInt64.toNat_and] at h
  have h1 : x.toNat &&& 9223372036854775807 ≤ 9218868437227405312 := h
  have h3 : x.toNat &&& (2 ^ 63 - 1) = x.toNat % 2 ^ 63 := Nat.and_two_pow_sub_one_eq_mod x.toNat 63
  have h4 : x.toNat &&& 9223372036854775807 = x.toNat % 9223372036854775808 := h3
  rw [h4] at h1
  rw [fd_decN] at q
  split at q
  · rename_i h5
    split at q
    · cases q
    · rename_i h6
      omega
  · split at q <;> cases q

