/-! the law: 82a.lawk (printed by wip/p33/slaw.py) -/
section LAW
variable {p : Program} {l : Launch} {e : Env} {s : State} {m : MethodId} {below : List Frame} {meth : Method} {c : Code} {b L : Nat} {xs : Nat → Int32} {G : va_G} {T : Nat → ClassId} {A : Nat → Prop} {a9 : CA} {aq at9 ar ab : Nat} {Q : State → Prop}

def laK (i k : Nat) : Nat := if i < 4 ∨ k < 6 then 0 else if k < 18 then 1 else if k < 21 then 2 else if k < 23 then 3 else if k < 25 then 4 else if k < 27 then 5 else if k < 30 then 6 else if k = 30 then 7 else 8
theorem laK_lt (i k : Nat) : laK i k < 9 := by
  unfold laK
  repeat (first | omega | split)
def laA (kd : Nat) (y : Int32) : Nat := if kd = 0 then loN y 4 * 5 + 2 else if kd = 8 then loN y 4 * 5 + 2 else if kd = 3 then loN y 7 else if kd = 5 ∨ kd = 6 then loN y 3 else if kd = 7 then loN y 2 else loN y 6
def laE (kd a : Nat) (y : Int32) : Nat := if kd = 7 then (if a = 0 then loN (iShr y (nI 3)) 3 else 1 + loN (iShr y (nI 3)) 9) else if kd = 1 ∨ kd = 6 then (if loN (iShr y (nI 20)) 5 = 0 then loN (iShr y (nI 3)) 20 else loN (iShr y (nI 3)) 4 * 5 + 2) else loN (iShr y (nI 3)) 20
theorem la_ok (kd : Nat) (y : Int32) (hk : kd < 9) : okA kd (laA kd y) (laE kd (laA kd y) y) := by
  have h1 := loN_lt y (n := 4) (by decide)
  have h2 := loN_lt y (n := 7) (by decide)
  have h3 := loN_lt y (n := 3) (by decide)
  have h4 := loN_lt y (n := 2) (by decide)
  have h5 := loN_lt y (n := 6) (by decide)
  have g1 := loN_lt (iShr y (nI 3)) (n := 3) (by decide)
  have g2 := loN_lt (iShr y (nI 3)) (n := 9) (by decide)
  have g3 := loN_lt (iShr y (nI 3)) (n := 20) (by decide)
  have g4 := loN_lt (iShr y (nI 3)) (n := 4) (by decide)
  rcases (show kd = 0 ∨ kd = 1 ∨ kd = 2 ∨ kd = 3 ∨ kd = 4 ∨ kd = 5 ∨ kd = 6 ∨ kd = 7 ∨ kd = 8 by omega) with rfl | rfl | rfl | rfl | rfl | rfl | rfl | rfl | rfl
  · show okA 0 (loN y 4 * 5 + 2) (loN (iShr y (nI 3)) 20)
    unfold okA; omega
  · show okA 1 (loN y 6) (if loN (iShr y (nI 20)) 5 = 0 then loN (iShr y (nI 3)) 20 else loN (iShr y (nI 3)) 4 * 5 + 2)
    unfold okA; split <;> omega
  · show okA 2 (loN y 6) (loN (iShr y (nI 3)) 20)
    unfold okA; omega
  · show okA 3 (loN y 7) (loN (iShr y (nI 3)) 20)
    unfold okA; omega
  · show okA 4 (loN y 6) (loN (iShr y (nI 3)) 20)
    unfold okA; omega
  · show okA 5 (loN y 3) (loN (iShr y (nI 3)) 20)
    unfold okA; omega
  · show okA 6 (loN y 3) (if loN (iShr y (nI 20)) 5 = 0 then loN (iShr y (nI 3)) 20 else loN (iShr y (nI 3)) 4 * 5 + 2)
    unfold okA; split <;> omega
  · show okA 7 (loN y 2) (if loN y 2 = 0 then loN (iShr y (nI 3)) 3 else 1 + loN (iShr y (nI 3)) 9)
    unfold okA; split <;> omega
  · show okA 8 (loN y 4 * 5 + 2) (loN (iShr y (nI 3)) 20)
    unfold okA; omega
end LAW
