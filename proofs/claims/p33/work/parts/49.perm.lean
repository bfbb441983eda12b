/-! worlds in another order; worlds made of blocks -/
theorem va_P.perm {D : va_G} {cl : List vw_C} {w w' : va_W} {H : Heap} (h : va_P D cl w H) (hp : w.Perm w') : va_P D cl w' H := by
  intro k q hk
  obtain ⟨i, hi⟩ := List.getElem?_of_mem (hp.mem_iff.mpr (List.mem_of_getElem? hk))
  exact h i q hi
theorem va_D.pw {A : Nat → Prop} {w : va_W} (h : va_D A w) : List.Pairwise (fun a b : Nat × va_E => a.1 ≠ b.1) w :=
  List.pairwise_iff_getElem.mpr (fun i j hi hj hij q => by
    have := h.1 i j _ _ (List.getElem?_eq_getElem hi) (List.getElem?_eq_getElem hj) q
    omega)
theorem va_D.perm {A : Nat → Prop} {w w' : va_W} (h : va_D A w) (hp : w.Perm w') : va_D A w' := by
  have hw := (hp.pairwise_iff (R := fun a b : Nat × va_E => a.1 ≠ b.1) (fun q z => q z.symm)).mp h.pw
  refine ⟨fun i j p q hi hj hpq => ?_, fun k q hk => ?_⟩
  · obtain ⟨a1, a2⟩ := List.getElem?_eq_some_iff.mp hi
    obtain ⟨b1, b2⟩ := List.getElem?_eq_some_iff.mp hj
    rcases Nat.lt_trichotomy i j with z | z | z
    · have h1 := List.pairwise_iff_getElem.mp hw i j a1 b1 z
      rw [a2, b2] at h1
      exact absurd hpq h1
    · exact z
    · have h1 := List.pairwise_iff_getElem.mp hw j i b1 a1 z
      rw [a2, b2] at h1
      exact absurd hpq.symm h1
  · obtain ⟨i, hi⟩ := List.getElem?_of_mem (hp.mem_iff.mpr (List.mem_of_getElem? hk))
    exact h.2 i q hi
theorem va_A.perm {w w' : va_W} (hp : w.Perm w') (sz : Nat) : ∀ q, va_A w sz q → va_A w' sz q := by
  intro q h
  rcases h with ⟨k, e, h⟩ | h
  · obtain ⟨i, hi⟩ := List.getElem?_of_mem (hp.mem_iff.mp (List.mem_of_getElem? h))
    exact Or.inl ⟨i, e, hi⟩
  · exact Or.inr h
theorem sR.perm {G : va_G} {T : Nat → ClassId} {sz : Nat} {w w' : va_W} {U : State} (h : sR G T sz w U) (hp : w.Perm w') : sR G T sz w' U :=
  ⟨h.1, h.2.1.perm hp, h.2.2.1, h.2.2.2.1.perm hp, h.2.2.2.2.narrow (va_A.perm hp.symm sz)⟩
theorem sP.perm {G : va_G} {w w' w1 w1' : va_W} {sz : Nat} {t : State} (h : sP G (va_A w sz) w1 t) (hp : w.Perm w') (h1 : w1.Perm w1') : sP G (va_A w' sz) w1' t :=
  ⟨h.1.perm h1, (h.2.perm h1).weaken (fun _ q _ hq => va_A.perm hp sz q.1 hq)⟩
theorem va_F.perm {w w' : va_W} {sz : Nat} {s t : State} (h : va_F (va_A w sz) s t) (hp : w.Perm w') : va_F (va_A w' sz) s t := ⟨h.1, fun q h1 h2 => h.2 q h1 (fun z => h2 (va_A.perm hp sz q z))⟩
section PRM
variable {l : Launch} {y : MethodName} {wz : List Cond} {d mc ms : Nat} {G : va_G} {T : Nat → ClassId} {sz : Nat} {av : List Value} {W W' W1 W1' : va_W}
theorem RWi.pm {v : Int32} (hM : RWi l y wz d mc ms G T sz W av v W1) (hp : W.Perm W') (h1 : W1.Perm W1') : RWi l y wz d mc ms G T sz W' av v W1' := by
  unfold RWi Met at hM ⊢
  refine Jvm.Free.MetFree.mono hM (fun a s h => ⟨h.1, h.2.perm hp.symm⟩) (fun _ _ _ _ _ q => q) (fun a s o t _ hq => ?_)
  obtain ⟨⟨⟨r, u, a1, a2, a3⟩, hF⟩, L, a4, a5⟩ := hq
  exact ⟨⟨⟨r, u, a1, a2, a3.perm hp h1⟩, hF.perm hp⟩, L, a4, fun q hq => va_A.perm hp sz _ (a5 q hq)⟩
theorem RWl.pm {v : Int64} (hM : RWl l y wz d mc ms G T sz W av v W1) (hp : W.Perm W') (h1 : W1.Perm W1') : RWl l y wz d mc ms G T sz W' av v W1' := by
  unfold RWl Met at hM ⊢
  refine Jvm.Free.MetFree.mono hM (fun a s h => ⟨h.1, h.2.perm hp.symm⟩) (fun _ _ _ _ _ q => q) (fun a s o t _ hq => ?_)
  obtain ⟨⟨⟨r, u, a1, a2, a3⟩, hF⟩, L, a4, a5⟩ := hq
  exact ⟨⟨⟨r, u, a1, a2, a3.perm hp h1⟩, hF.perm hp⟩, L, a4, fun q hq => va_A.perm hp sz _ (a5 q hq)⟩
theorem RWd.pm {v : UInt64} (hM : RWd l y wz d mc ms G T sz W av v W1) (hp : W.Perm W') (h1 : W1.Perm W1') : RWd l y wz d mc ms G T sz W' av v W1' := by
  unfold RWd Met at hM ⊢
  refine Jvm.Free.MetFree.mono hM (fun a s h => ⟨h.1, h.2.perm hp.symm⟩) (fun _ _ _ _ _ q => q) (fun a s o t _ hq => ?_)
  obtain ⟨⟨⟨r, u, a1, a2, a3⟩, hF⟩, L, a4, a5⟩ := hq
  exact ⟨⟨⟨r, u, a1, a2, a3.perm hp h1⟩, hF.perm hp⟩, L, a4, fun q hq => va_A.perm hp sz _ (a5 q hq)⟩
theorem RX.pm {v : Int32 ⊕ String} (hM : RX l y wz d G T sz W av v W1) (hp : W.Perm W') (h1 : W1.Perm W1') : RX l y wz d G T sz W' av v W1' := by
  unfold RX vx_Met at hM ⊢
  refine Jvm.Free.MetFree.mono hM (fun a s h => ⟨h.1, h.2.1.perm hp.symm, h.2.2⟩) (fun _ _ _ _ _ q => q) (fun a s o t _ hq => ?_)
  rcases hq with ⟨⟨⟨r, u, a1, a2, a3⟩, hF⟩, L, a4, a5⟩ | ⟨q, a1, E, ce, L, ⟨u, a2, ⟨a3, a4⟩, hF⟩, a5, a6, a7, a8, a9, a10⟩
  · exact Or.inl ⟨⟨⟨r, u, a1, a2, a3.perm hp h1⟩, hF.perm hp⟩, L, a4, fun q hq => va_A.perm hp sz _ (a5 q hq)⟩
  · exact Or.inr ⟨q, a1, E, ce, L, ⟨u, a2, ⟨a3, a4.perm hp h1⟩, hF.perm hp⟩, a5, a6, a7, a8, a9, fun z hz => va_A.perm hp sz _ (a10 z hz)⟩
/-- a reading contract is one that changes nothing -/
theorem RO.rwi {v : Int32} (hM : ∀ A, RO l y wz d G T A W av v) : RWi l y wz d 0 0 G T sz W av v W := by
  have h := hM (va_A W sz)
  unfold RO Met at h
  unfold RWi Met
  refine Jvm.Free.MetFree.mono h (fun a s h => ⟨h.1, h.2.2.1, h.2.2.2.1, h.2.2.2.2.2⟩) (fun _ _ _ _ _ q => q) (fun a s o t hp hq => ?_)
  obtain ⟨⟨r, a1, a2, a3⟩, L, a4, a5⟩ := hq
  obtain ⟨-, -, b2, -, b4, -⟩ := hp
  refine ⟨⟨⟨r, (), a1, a2, by rw [a3]; exact b2, b4.self⟩, ⟨by rw [a3]; exact Nat.le_refl _, fun q _ _ => by rw [a3]⟩⟩, L, a4, fun q hq => (a5 q hq).elim⟩
end PRM
def blk (L : Nat → va_W) (is : List Nat) : va_W := (is.map L).flatten
theorem blk_perm {L : Nat → va_W} {is js : List Nat} (h : is.Perm js) : (blk L is).Perm (blk L js) := (h.map L).flatten
theorem blk_app (L : Nat → va_W) (is js : List Nat) : blk L (is ++ js) = blk L is ++ blk L js := by unfold blk; rw [List.map_append, List.flatten_append]
theorem blk_congr {L L' : Nat → va_W} {js : List Nat} (h : ∀ j ∈ js, L' j = L j) : blk L' js = blk L js := by unfold blk; rw [List.map_congr_left h]
section BLK
variable {l : Launch} {y : MethodName} {wz : List Cond} {d mc ms : Nat} {G : va_G} {T : Nat → ClassId} {sz : Nat} {av : List Value} {wc w1 : va_W}
variable (L L' : Nat → va_W) (is js ks : List Nat)
theorem blk_p (h0 : wc = blk L is) (hp : (is ++ js).Perm ks) : (wc ++ blk L js).Perm (blk L ks) := by
  rw [h0, ← blk_app]
  exact blk_perm hp
theorem blk_p1 (h1 : w1 = blk L' is) (hL : ∀ j ∈ js, L' j = L j) (hp : (is ++ js).Perm ks) : (w1 ++ blk L js).Perm (blk L' ks) := by
  rw [h1, ← blk_congr hL, ← blk_app]
  exact blk_perm hp
theorem RWi.frb {v : Int32} (hM : RWi l y wz d mc ms G T sz wc av v w1) (h0 : wc = blk L is) (h1 : w1 = blk L' is) (hL : ∀ j ∈ js, L' j = L j) (hp : (is ++ js).Perm ks) : RWi l y wz d mc ms G T sz (blk L ks) av v (blk L' ks) := (hM.fr (Fr.tail wc w1 (blk L js))).pm (blk_p L is js ks h0 hp) (blk_p1 L L' is js ks h1 hL hp)
theorem RWl.frb {v : Int64} (hM : RWl l y wz d mc ms G T sz wc av v w1) (h0 : wc = blk L is) (h1 : w1 = blk L' is) (hL : ∀ j ∈ js, L' j = L j) (hp : (is ++ js).Perm ks) : RWl l y wz d mc ms G T sz (blk L ks) av v (blk L' ks) := (hM.fr (Fr.tail wc w1 (blk L js))).pm (blk_p L is js ks h0 hp) (blk_p1 L L' is js ks h1 hL hp)
theorem RWd.frb {v : UInt64} (hM : RWd l y wz d mc ms G T sz wc av v w1) (h0 : wc = blk L is) (h1 : w1 = blk L' is) (hL : ∀ j ∈ js, L' j = L j) (hp : (is ++ js).Perm ks) : RWd l y wz d mc ms G T sz (blk L ks) av v (blk L' ks) := (hM.fr (Fr.tail wc w1 (blk L js))).pm (blk_p L is js ks h0 hp) (blk_p1 L L' is js ks h1 hL hp)
theorem RX.frb {v : Int32 ⊕ String} (hM : RX l y wz d G T sz wc av v w1) (h0 : wc = blk L is) (h1 : w1 = blk L' is) (hL : ∀ j ∈ js, L' j = L j) (hp : (is ++ js).Perm ks) : RX l y wz d G T sz (blk L ks) av v (blk L' ks) := (hM.fr (Fr.tail wc w1 (blk L js))).pm (blk_p L is js ks h0 hp) (blk_p1 L L' is js ks h1 hL hp)
end BLK
theorem asc1 (a : va_W) : a = a ++ [] := (List.append_nil a).symm
theorem asc2 (a b : va_W) : a ++ b = a ++ (b ++ []) := by rw [List.append_nil]
theorem asc3 (a b c : va_W) : a ++ b ++ c = a ++ (b ++ (c ++ [])) := by rw [List.append_nil, List.append_assoc]
theorem asc4 (a b c d : va_W) : a ++ b ++ c ++ d = a ++ (b ++ (c ++ (d ++ []))) := by rw [List.append_nil, List.append_assoc, List.append_assoc]
theorem asc5 (a b c d e : va_W) : a ++ b ++ c ++ d ++ e = a ++ (b ++ (c ++ (d ++ (e ++ [])))) := by rw [List.append_nil, List.append_assoc, List.append_assoc, List.append_assoc]
theorem asc6 (a b c d e f : va_W) : a ++ b ++ c ++ d ++ e ++ f = a ++ (b ++ (c ++ (d ++ (e ++ (f ++ []))))) := by rw [List.append_nil, List.append_assoc, List.append_assoc, List.append_assoc, List.append_assoc]
theorem asc7 (a b c d e f g : va_W) : a ++ b ++ c ++ d ++ e ++ f ++ g = a ++ (b ++ (c ++ (d ++ (e ++ (f ++ (g ++ [])))))) := by rw [List.append_nil, List.append_assoc, List.append_assoc, List.append_assoc, List.append_assoc, List.append_assoc]
theorem asc8 (a b c d e f g h : va_W) : a ++ b ++ c ++ d ++ e ++ f ++ g ++ h = a ++ (b ++ (c ++ (d ++ (e ++ (f ++ (g ++ (h ++ []))))))) := by rw [List.append_nil, List.append_assoc, List.append_assoc, List.append_assoc, List.append_assoc, List.append_assoc, List.append_assoc]
/-- WhistleTunes block by block -/
def Lc (T : Nat → ClassId) (a : CA) (c : CC) : Nat → va_W
  | 0 => oX7 a.1 a.2.1 a.2.2.1 a.2.2.2.1 a.2.2.2.2.2.1 a.2.2.2.2.2.2.1 a.2.2.2.2.2.2.2.1 a.2.2.2.2.2.2.2.2.1 a.2.2.2.2.2.2.2.2.2 c.1
  | 1 => oX3 T a.2.1 c.2.1
  | 2 => oX3 T a.2.2.1 c.2.2.1
  | 3 => oX1 T a.2.2.2.1 a.2.2.2.2.1 c.2.2.2.1 c.2.2.2.2.1
  | 4 => oX5 T a.2.2.2.2.2.1 c.2.2.2.2.2.1
  | 5 => oX0 T a.2.2.2.2.2.2.1 c.2.2.2.2.2.2.1
  | 6 => oX6 T a.2.2.2.2.2.2.2.1 c.2.2.2.2.2.2.2.1
  | 7 => oX4 T a.2.2.2.2.2.2.2.2.1 c.2.2.2.2.2.2.2.2.1
  | _ => oX2 T a.2.2.2.2.2.2.2.2.2 c.2.2.2.2.2.2.2.2.2
def oC (T : Nat → ClassId) (a : CA) (c : CC) : va_W := blk (Lc T a c) [0, 1, 2, 3, 4, 5, 6, 7, 8]
theorem oC_eq (T : Nat → ClassId) (a : CA) (c : CC) : oCC T a c = oC T a c := by
  unfold oCC
  rw [asc8]
  rfl
