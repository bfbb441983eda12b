/-! throwing contracts over the whole world -/
section FRX
variable {l : Launch} {y : MethodName} {wz : List Cond} {d mc ms : Nat} {G : va_G} {T : Nat → ClassId} {sz : Nat} {av : List Value} {W wc wr w1 W1 : va_W}
theorem RX.fr {v : Int32 ⊕ String} (hM : RX l y wz d G T sz wc av v w1) (h : Fr W wc wr w1 W1) : RX l y wz d G T sz W av v W1 := by
  unfold RX vx_Met at hM ⊢
  refine Jvm.Free.MetFree.mono hM (fun a s hp => ⟨hp.1, h.pre hp.2.1, hp.2.2⟩) (fun _ _ _ _ _ q => q) (fun a s o t hp hq => ?_)
  rcases hq with ⟨⟨⟨r, u, h1, h2, h3⟩, hF⟩, L, h4, h5⟩ | ⟨q, h1, E, ce, L, ⟨u, h2, ⟨h3, h4⟩, hF⟩, h5, h6, h7, h8, h9, h10⟩
  · exact Or.inl ⟨⟨⟨r, u, h1, h2, h.post hp.2.1 hF h3⟩, h.F hF⟩, L, h4, fun q hq => h.free _ (h5 q hq)⟩
  · exact Or.inr ⟨q, h1, E, ce, L, ⟨u, h2, ⟨h3, h.post hp.2.1 hF h4⟩, h.F hF⟩, h5, h6, h7, h8, h9, fun z hz => h.free _ (h10 z hz)⟩
end FRX
